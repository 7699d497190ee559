def S_J9_floorMod_7cf53 (f : F3) (x0 : Int32) (x1 : Int32) : Option (Int32 × F3) := if ¬ x1 = 0 then (if 0 ≤ (x0 ^^^ x1) then (some (x0 - x0 / x1 * x1, f)) else (if (x0 - x0 / x1 * x1) = 0 then (some (x0 - x0 / x1 * x1, f)) else (some ((x0 - x0 / x1 * x1) + x1, f)))) else none
set_option maxHeartbeats 4000000 in
set_option maxRecDepth 100000 in
theorem T_J9_floorMod_7cf53 (G : mmG) {f f' : F3} {rv : Int32} {x0 : Int32} {x1 : Int32} (h : S_J9_floorMod_7cf53 f x0 x1 = some (rv, f')) : mmM G yJ9_floorMod_7cf53 cJ9_floorMod_7cf53 3 (some .int) 0 [.int x0, .int x1] f (some (.int rv)) f' := by
  refine mm_start (by decide +kernel) (Nat.le_of_ble_eq_true rfl) ?_
  intro p e s m args below meth c ls C0 hR hl
  obtain ⟨hx, hb, hml, hr, hown, hts, hlocks⟩ := id C0
  have hl : lv_has ls 3 [(0, .int x0), (1, .int x1)] := hl
  rw [S_J9_floorMod_7cf53] at h
  refine lv_iload_n hx hb dJ9_floorMod_7cf53_0 rfl (lv_at hl 0 rfl) ?_
  refine lv_iload_n hx hb dJ9_floorMod_7cf53_1 rfl (lv_at hl 1 rfl) ?_
  obtain ⟨z1, h⟩ := mm_if h
  refine lv_irem hx hb dJ9_floorMod_7cf53_2 z1 ?_
  refine lv_istore_n (lv' := [(2, .int (x0 - x0 / x1 * x1)), (0, .int x0), (1, .int x1)]) hx hb dJ9_floorMod_7cf53_3 rfl hl (by decide) rfl (fun ls hl => ?_)
  refine lv_iload_n hx hb dJ9_floorMod_7cf53_4 rfl (lv_at hl 1 rfl) ?_
  refine lv_iload_n hx hb dJ9_floorMod_7cf53_5 rfl (lv_at hl 2 rfl) ?_
  refine lv_ixor hx hb dJ9_floorMod_7cf53_6 ?_
  refine lv_if_ge (tgt := 18) hx hb dJ9_floorMod_7cf53_7 (by decide) (fun c2 => ?_) (fun c2 => ?_)
  · rw [if_pos c2] at h
    refine lv_iload_n hx hb dJ9_floorMod_7cf53_18 rfl (lv_at hl 0 rfl) ?_
    obtain ⟨rfl, rfl⟩ := mm_pr h
    exact mm_iret C0 hR dJ9_floorMod_7cf53_19
  · rw [if_neg c2] at h
    refine lv_iload_n hx hb dJ9_floorMod_7cf53_10 rfl (lv_at hl 0 rfl) ?_
    refine lv_if_eq (tgt := 18) hx hb dJ9_floorMod_7cf53_11 (by decide) (fun c3 => ?_) (fun c3 => ?_)
    · rw [if_pos c3] at h
      refine lv_iload_n hx hb dJ9_floorMod_7cf53_18 rfl (lv_at hl 0 rfl) ?_
      obtain ⟨rfl, rfl⟩ := mm_pr h
      exact mm_iret C0 hR dJ9_floorMod_7cf53_19
    · rw [if_neg c3] at h
      refine lv_iload_n hx hb dJ9_floorMod_7cf53_14 rfl (lv_at hl 0 rfl) ?_
      refine lv_iload_n hx hb dJ9_floorMod_7cf53_15 rfl (lv_at hl 2 rfl) ?_
      refine lv_iadd hx hb dJ9_floorMod_7cf53_16 ?_
      obtain ⟨rfl, rfl⟩ := mm_pr h
      exact mm_iret C0 hR dJ9_floorMod_7cf53_17
def S_X0_become_13 (f : F3) (i0 : Nat) (x1 : Int32) : Option F3 := mm_let (up f 1 i0 0 x1) fun f3 => some f3
set_option maxHeartbeats 4000000 in
set_option maxRecDepth 100000 in
theorem L_X0_become_13 {G : mmG} {p : Program} {e : Env} {s : State} {m : MethodId} {args : Array Value} {below : List Frame} {meth : Method} {c : Code} {f' : F3} (C0 : mmC yX0_become cX0_become 2 none p s m args meth c) {f : F3} {i0 : Nat} {x1 : Int32} (hi0 : i0 < mm_cnt 1) (h : S_X0_become_13 f i0 x1 = some f') (H : Heap) (locs : List Loc) (ls : Array Slot) (hR : mm_R G mm_NT f (GG f) s H locs) (hl : lv_has ls 2 [(0, .ref (ra G 1 i0)), (1, .int x1)]) : W p G.1 e (mm_rm 0) s m args below meth c H locs 0 0 (MQ below (mm_Q G mm_NT none f' (GG f')) args s 0 0 (mm_A G)) (F0 m 13 ls []) := by
  obtain ⟨hx, hb, hml, hr, hown, hts, hlocks⟩ := id C0
  rw [S_X0_become_13] at h
  refine lv_aload_n hx hb dX0_become_13 rfl (lv_at hl 0 rfl) ?_
  refine lv_iload_n hx hb dX0_become_14 rfl (lv_at hl 1 rfl) ?_
  obtain ⟨f3, ef3, h⟩ := mm_lt h
  refine mm_put hx hb hts hown hR 1 i0 0 (by decide) (mm_vld 1 (by decide) i0 hi0) (x := x1) rfl rfl iX0 tyX0 tyX0_ok nmX0 (by decide) lk_0 rfl rfl rfl (Nat.le_of_ble_eq_true rfl) rfl dX0_become_15 (fun H locs hR => ?_)
  rw [← ef3] at hR
  obtain rfl := mm_p1 h
  exact mm_vret C0 hR dX0_become_18
def S_X0_become (f : F3) (i0 : Nat) (x1 : Int32) : Option F3 := if (f 1 i0 0) = x1 then (S_X0_become_13 f i0 x1) else (mm_let (up f 1 i0 7 (-1)) fun f2 => S_X0_become_13 f2 i0 x1)
set_option maxHeartbeats 4000000 in
set_option maxRecDepth 100000 in
theorem T_X0_become (G : mmG) {f f' : F3} {i0 : Nat} {x1 : Int32} (hi0 : i0 < mm_cnt 1) (h : S_X0_become f i0 x1 = some f') : mmM G yX0_become cX0_become 2 none 0 [.ref (ra G 1 i0), .int x1] f none f' := by
  refine mm_start (by decide +kernel) (Nat.le_of_ble_eq_true rfl) ?_
  intro p e s m args below meth c ls C0 hR hl
  obtain ⟨hx, hb, hml, hr, hown, hts, hlocks⟩ := id C0
  have hl : lv_has ls 2 [(0, .ref (ra G 1 i0)), (1, .int x1)] := hl
  rw [S_X0_become] at h
  refine lv_aload_n hx hb dX0_become_0 rfl (lv_at hl 0 rfl) ?_
  refine mm_get hx hb hts hown hR 1 i0 0 (mm_vld 1 (by decide) i0 hi0) (v := .int (f 1 i0 0)) rfl rfl iX0 (by decide) lk_0 rfl dX0_become_1 ?_
  refine lv_iload_n hx hb dX0_become_4 rfl (lv_at hl 1 rfl) ?_
  refine lv_icmp_eq (tgt := 13) hx hb dX0_become_5 (by decide) (fun c1 => ?_) (fun c1 => ?_)
  · rw [if_pos c1] at h
    exact L_X0_become_13 C0 hi0 h _ _ _ hR (lv_sub hl [0, 1] rfl)
  · rw [if_neg c1] at h
    refine lv_aload_n hx hb dX0_become_8 rfl (lv_at hl 0 rfl) ?_
    refine lv_iconst (v := (-1)) hx hb dX0_become_9 (by decide) ?_
    obtain ⟨f2, ef2, h⟩ := mm_lt h
    refine mm_put hx hb hts hown hR 1 i0 7 (by decide) (mm_vld 1 (by decide) i0 hi0) (x := (-1)) rfl rfl iX0 tyX0 tyX0_ok nmX0 (by decide) lk_1 rfl rfl rfl (Nat.le_of_ble_eq_true rfl) rfl dX0_become_10 (fun H locs hR => ?_)
    rw [← ef2] at hR
    exact L_X0_become_13 C0 hi0 h _ _ _ hR (lv_sub hl [0, 1] rfl)
def S_X0_crack (f : F3) (i0 : Nat) : Option F3 := Option.bind (S_X0_become f i0 3) fun f1 => mm_let (up f1 1 i0 5 0) fun f2 => mm_let (up f2 1 i0 6 0) fun f3 => some f3
set_option maxHeartbeats 4000000 in
set_option maxRecDepth 100000 in
theorem T_X0_crack (G : mmG) {f f' : F3} {i0 : Nat} (hi0 : i0 < mm_cnt 1) (h : S_X0_crack f i0 = some f') : mmM G yX0_crack cX0_crack 1 none 1 [.ref (ra G 1 i0)] f none f' := by
  refine mm_start (by decide +kernel) (Nat.le_of_ble_eq_true rfl) ?_
  intro p e s m args below meth c ls C0 hR hl
  obtain ⟨hx, hb, hml, hr, hown, hts, hlocks⟩ := id C0
  have hl : lv_has ls 1 [(0, .ref (ra G 1 i0))] := hl
  rw [S_X0_crack] at h
  refine lv_aload_n hx hb dX0_crack_0 rfl (lv_at hl 0 rfl) ?_
  refine lv_iconst (v := 3) hx hb dX0_crack_1 (by decide) ?_
  obtain ⟨f1, ef1, h⟩ := mm_bind h
  refine mm_callV (v := none) (f1 := f1) (d0 := 0) (rest := []) [.int 3] C0 rfl hR 1 i0 (T_X0_become G hi0 ef1) ws_X0_become lk_2 hd_X0_become ⟨by decide, by decide⟩ (mm_vld 1 (by decide) i0 hi0) rfl rfl rfl hl.1 rfl (Nat.le_of_ble_eq_true rfl) dX0_crack_2 (fun H locs hR => ?_)
  refine W.eq (g2 := F0 m 5 ls ([])) rfl ?_
  refine lv_aload_n hx hb dX0_crack_5 rfl (lv_at hl 0 rfl) ?_
  refine lv_iconst (v := 0) hx hb dX0_crack_6 (by decide) ?_
  obtain ⟨f2, ef2, h⟩ := mm_lt h
  refine mm_put hx hb hts hown hR 1 i0 5 (by decide) (mm_vld 1 (by decide) i0 hi0) (x := 0) rfl rfl iX0 tyX0 tyX0_ok nmX0 (by decide) lk_3 rfl rfl rfl (Nat.le_of_ble_eq_true rfl) rfl dX0_crack_7 (fun H locs hR => ?_)
  rw [← ef2] at hR
  refine lv_aload_n hx hb dX0_crack_10 rfl (lv_at hl 0 rfl) ?_
  refine lv_iconst (v := 0) hx hb dX0_crack_11 (by decide) ?_
  obtain ⟨f3, ef3, h⟩ := mm_lt h
  refine mm_put hx hb hts hown hR 1 i0 6 (by decide) (mm_vld 1 (by decide) i0 hi0) (x := 0) rfl rfl iX0 tyX0 tyX0_ok nmX0 (by decide) lk_4 rfl rfl rfl (Nat.le_of_ble_eq_true rfl) rfl dX0_crack_12 (fun H locs hR => ?_)
  rw [← ef3] at hR
  obtain rfl := mm_p1 h
  exact mm_vret C0 hR dX0_crack_15
def S_X0_growth_74 (f : F3) (s0 : Int32) (s1 : Int32) (x1 : Int32) (x3 : Int32) : Option (Int32 × F3) := if (s0 + s1) ≤ 0 then (some (0, f)) else (if ¬ (s0 + s1) = 0 then (some (((-x1) * x3) / (s0 + s1), f)) else none)
set_option maxHeartbeats 4000000 in
set_option maxRecDepth 100000 in
theorem L_X0_growth_74 {G : mmG} {p : Program} {e : Env} {s : State} {m : MethodId} {args : Array Value} {below : List Frame} {meth : Method} {c : Code} {f' : F3} {rv : Int32} (C0 : mmC yX0_growth cX0_growth 5 (some .int) p s m args meth c) {f : F3} {s0 : Int32} {s1 : Int32} {x1 : Int32} {x3 : Int32} (h : S_X0_growth_74 f s0 s1 x1 x3 = some (rv, f')) (H : Heap) (locs : List Loc) (ls : Array Slot) (hR : mm_R G mm_NT f (GG f) s H locs) (hl : lv_has ls 5 [(1, .int x1), (3, .int x3)]) : W p G.1 e (mm_rm 0) s m args below meth c H locs 0 0 (MQ below (mm_Q G mm_NT (some (.int rv)) f' (GG f')) args s 0 0 (mm_A G)) (F0 m 74 ls [.int s1, .int s0]) := by
  obtain ⟨hx, hb, hml, hr, hown, hts, hlocks⟩ := id C0
  rw [S_X0_growth_74] at h
  refine lv_iadd hx hb dX0_growth_74 ?_
  refine lv_istore (lv' := [(4, .int (s0 + s1)), (1, .int x1), (3, .int x3)]) hx hb dX0_growth_75 hl (by decide) rfl (fun ls hl => ?_)
  refine lv_iload hx hb dX0_growth_77 (lv_at hl 0 rfl) ?_
  refine lv_if_le (tgt := 92) hx hb dX0_growth_79 (by decide) (fun c6 => ?_) (fun c6 => ?_)
  · rw [if_pos c6] at h
    refine lv_iconst (v := 0) hx hb dX0_growth_92 (by decide) ?_
    obtain ⟨rfl, rfl⟩ := mm_pr h
    exact mm_iret C0 hR dX0_growth_93
  · rw [if_neg c6] at h
    refine lv_iload_n hx hb dX0_growth_82 rfl (lv_at hl 1 rfl) ?_
    refine lv_ineg hx hb dX0_growth_83 ?_
    refine lv_iload_n hx hb dX0_growth_84 rfl (lv_at hl 2 rfl) ?_
    refine lv_imul hx hb dX0_growth_85 ?_
    refine lv_iload hx hb dX0_growth_86 (lv_at hl 0 rfl) ?_
    obtain ⟨z7, h⟩ := mm_if h
    refine lv_idiv hx hb dX0_growth_88 z7 ?_
    refine lv_goto (tgt := 93) hx hb dX0_growth_89 (by decide) ?_
    obtain ⟨rfl, rfl⟩ := mm_pr h
    exact mm_iret C0 hR dX0_growth_93
def S_X0_growth_49 (f : F3) (s0 : Int32) (i0 : Nat) (x1 : Int32) (x2 : Int32) : Option (Int32 × F3) := if x2 = 0 then (S_X0_growth_74 f (100 + ((f 1 i0 1) / 10)) (3 * (f 1 i0 2)) x1 s0) else (S_X0_growth_74 f (100 + ((f 1 i0 1) / 10)) 0 x1 s0)
set_option maxHeartbeats 4000000 in
set_option maxRecDepth 100000 in
theorem L_X0_growth_49 {G : mmG} {p : Program} {e : Env} {s : State} {m : MethodId} {args : Array Value} {below : List Frame} {meth : Method} {c : Code} {f' : F3} {rv : Int32} (C0 : mmC yX0_growth cX0_growth 5 (some .int) p s m args meth c) {f : F3} {s0 : Int32} {i0 : Nat} {x1 : Int32} {x2 : Int32} (hi0 : i0 < mm_cnt 1) (h : S_X0_growth_49 f s0 i0 x1 x2 = some (rv, f')) (H : Heap) (locs : List Loc) (ls : Array Slot) (hR : mm_R G mm_NT f (GG f) s H locs) (hl : lv_has ls 5 [(0, .ref (ra G 1 i0)), (1, .int x1), (2, .int x2)]) : W p G.1 e (mm_rm 0) s m args below meth c H locs 0 0 (MQ below (mm_Q G mm_NT (some (.int rv)) f' (GG f')) args s 0 0 (mm_A G)) (F0 m 49 ls [.int s0]) := by
  obtain ⟨hx, hb, hml, hr, hown, hts, hlocks⟩ := id C0
  rw [S_X0_growth_49] at h
  refine lv_istore_n (lv' := [(3, .int s0), (0, .ref (ra G 1 i0)), (1, .int x1), (2, .int x2)]) hx hb dX0_growth_49 rfl hl (by decide) rfl (fun ls hl => ?_)
  refine lv_bipush (v := 100) hx hb dX0_growth_50 (by decide) ?_
  refine lv_aload_n hx hb dX0_growth_52 rfl (lv_at hl 1 rfl) ?_
  refine mm_get hx hb hts hown hR 1 i0 1 (mm_vld 1 (by decide) i0 hi0) (v := .int (f 1 i0 1)) rfl rfl iX0 (by decide) lk_5 rfl dX0_growth_53 ?_
  refine lv_bipush (v := 10) hx hb dX0_growth_56 (by decide) ?_
  refine lv_idiv hx hb dX0_growth_58 (by decide) ?_
  refine lv_iadd hx hb dX0_growth_59 ?_
  refine lv_iload_n hx hb dX0_growth_60 rfl (lv_at hl 3 rfl) ?_
  refine lv_if_eq (tgt := 68) hx hb dX0_growth_61 (by decide) (fun c5 => ?_) (fun c5 => ?_)
  · rw [if_pos c5] at h
    refine lv_iconst (v := 3) hx hb dX0_growth_68 (by decide) ?_
    refine lv_aload_n hx hb dX0_growth_69 rfl (lv_at hl 1 rfl) ?_
    refine mm_get hx hb hts hown hR 1 i0 2 (mm_vld 1 (by decide) i0 hi0) (v := .int (f 1 i0 2)) rfl rfl iX0 (by decide) lk_6 rfl dX0_growth_70 ?_
    refine lv_imul hx hb dX0_growth_73 ?_
    exact L_X0_growth_74 C0 h _ _ _ hR (lv_sub hl [2, 0] rfl)
  · rw [if_neg c5] at h
    refine lv_iconst (v := 0) hx hb dX0_growth_64 (by decide) ?_
    refine lv_goto (tgt := 74) hx hb dX0_growth_65 (by decide) ?_
    exact L_X0_growth_74 C0 h _ _ _ hR (lv_sub hl [2, 0] rfl)
def S_X0_growth_21 (f : F3) (s0 : Int32) (i0 : Nat) (x1 : Int32) : Option (Int32 × F3) := if (f 1 i0 0) = 2 then (S_X0_growth_49 f 20 i0 x1 s0) else (if (f 1 i0 0) = 3 then (S_X0_growth_49 f 5 i0 x1 s0) else (S_X0_growth_49 f 10 i0 x1 s0))
set_option maxHeartbeats 4000000 in
set_option maxRecDepth 100000 in
theorem L_X0_growth_21 {G : mmG} {p : Program} {e : Env} {s : State} {m : MethodId} {args : Array Value} {below : List Frame} {meth : Method} {c : Code} {f' : F3} {rv : Int32} (C0 : mmC yX0_growth cX0_growth 5 (some .int) p s m args meth c) {f : F3} {s0 : Int32} {i0 : Nat} {x1 : Int32} (hi0 : i0 < mm_cnt 1) (h : S_X0_growth_21 f s0 i0 x1 = some (rv, f')) (H : Heap) (locs : List Loc) (ls : Array Slot) (hR : mm_R G mm_NT f (GG f) s H locs) (hl : lv_has ls 5 [(0, .ref (ra G 1 i0)), (1, .int x1)]) : W p G.1 e (mm_rm 0) s m args below meth c H locs 0 0 (MQ below (mm_Q G mm_NT (some (.int rv)) f' (GG f')) args s 0 0 (mm_A G)) (F0 m 21 ls [.int s0]) := by
  obtain ⟨hx, hb, hml, hr, hown, hts, hlocks⟩ := id C0
  rw [S_X0_growth_21] at h
  refine lv_istore_n (lv' := [(2, .int s0), (0, .ref (ra G 1 i0)), (1, .int x1)]) hx hb dX0_growth_21 rfl hl (by decide) rfl (fun ls hl => ?_)
  refine lv_aload_n hx hb dX0_growth_22 rfl (lv_at hl 1 rfl) ?_
  refine mm_get hx hb hts hown hR 1 i0 0 (mm_vld 1 (by decide) i0 hi0) (v := .int (f 1 i0 0)) rfl rfl iX0 (by decide) lk_0 rfl dX0_growth_23 ?_
  refine lv_iconst (v := 2) hx hb dX0_growth_26 (by decide) ?_
  refine lv_icmp_ne (tgt := 35) hx hb dX0_growth_27 (by decide) (fun c3 => ?_) (fun c3 => ?_)
  · rw [if_neg c3] at h
    refine lv_aload_n hx hb dX0_growth_35 rfl (lv_at hl 1 rfl) ?_
    refine mm_get hx hb hts hown hR 1 i0 0 (mm_vld 1 (by decide) i0 hi0) (v := .int (f 1 i0 0)) rfl rfl iX0 (by decide) lk_0 rfl dX0_growth_36 ?_
    refine lv_iconst (v := 3) hx hb dX0_growth_39 (by decide) ?_
    refine lv_icmp_ne (tgt := 47) hx hb dX0_growth_40 (by decide) (fun c4 => ?_) (fun c4 => ?_)
    · rw [if_neg c4] at h
      refine lv_bipush (v := 10) hx hb dX0_growth_47 (by decide) ?_
      exact L_X0_growth_49 C0 hi0 h _ _ _ hR (lv_sub hl [1, 2, 0] rfl)
    · rw [if_pos c4] at h
      refine lv_iconst (v := 5) hx hb dX0_growth_43 (by decide) ?_
      refine lv_goto (tgt := 49) hx hb dX0_growth_44 (by decide) ?_
      exact L_X0_growth_49 C0 hi0 h _ _ _ hR (lv_sub hl [1, 2, 0] rfl)
  · rw [if_pos c3] at h
    refine lv_bipush (v := 20) hx hb dX0_growth_30 (by decide) ?_
    refine lv_goto (tgt := 49) hx hb dX0_growth_32 (by decide) ?_
    exact L_X0_growth_49 C0 hi0 h _ _ _ hR (lv_sub hl [1, 2, 0] rfl)
def S_X0_growth_16 (f : F3) (i0 : Nat) (x1 : Int32) : Option (Int32 × F3) := S_X0_growth_21 f 1 i0 x1
set_option maxHeartbeats 4000000 in
set_option maxRecDepth 100000 in
theorem L_X0_growth_16 {G : mmG} {p : Program} {e : Env} {s : State} {m : MethodId} {args : Array Value} {below : List Frame} {meth : Method} {c : Code} {f' : F3} {rv : Int32} (C0 : mmC yX0_growth cX0_growth 5 (some .int) p s m args meth c) {f : F3} {i0 : Nat} {x1 : Int32} (hi0 : i0 < mm_cnt 1) (h : S_X0_growth_16 f i0 x1 = some (rv, f')) (H : Heap) (locs : List Loc) (ls : Array Slot) (hR : mm_R G mm_NT f (GG f) s H locs) (hl : lv_has ls 5 [(0, .ref (ra G 1 i0)), (1, .int x1)]) : W p G.1 e (mm_rm 0) s m args below meth c H locs 0 0 (MQ below (mm_Q G mm_NT (some (.int rv)) f' (GG f')) args s 0 0 (mm_A G)) (F0 m 16 ls []) := by
  obtain ⟨hx, hb, hml, hr, hown, hts, hlocks⟩ := id C0
  rw [S_X0_growth_16] at h
  refine lv_iconst (v := 1) hx hb dX0_growth_16 (by decide) ?_
  refine lv_goto (tgt := 21) hx hb dX0_growth_17 (by decide) ?_
  exact L_X0_growth_21 C0 hi0 h _ _ _ hR (lv_sub hl [0, 1] rfl)
def S_X0_growth (f : F3) (i0 : Nat) (x1 : Int32) : Option (Int32 × F3) := if (f 1 i0 0) = 1 then (S_X0_growth_16 f i0 x1) else (if (f 1 i0 0) = 2 then (S_X0_growth_16 f i0 x1) else (S_X0_growth_21 f 0 i0 x1))
set_option maxHeartbeats 4000000 in
set_option maxRecDepth 100000 in
theorem T_X0_growth (G : mmG) {f f' : F3} {rv : Int32} {i0 : Nat} {x1 : Int32} (hi0 : i0 < mm_cnt 1) (h : S_X0_growth f i0 x1 = some (rv, f')) : mmM G yX0_growth cX0_growth 5 (some .int) 0 [.ref (ra G 1 i0), .int x1] f (some (.int rv)) f' := by
  refine mm_start (by decide +kernel) (Nat.le_of_ble_eq_true rfl) ?_
  intro p e s m args below meth c ls C0 hR hl
  obtain ⟨hx, hb, hml, hr, hown, hts, hlocks⟩ := id C0
  have hl : lv_has ls 5 [(0, .ref (ra G 1 i0)), (1, .int x1)] := hl
  rw [S_X0_growth] at h
  refine lv_aload_n hx hb dX0_growth_0 rfl (lv_at hl 0 rfl) ?_
  refine mm_get hx hb hts hown hR 1 i0 0 (mm_vld 1 (by decide) i0 hi0) (v := .int (f 1 i0 0)) rfl rfl iX0 (by decide) lk_0 rfl dX0_growth_1 ?_
  refine lv_iconst (v := 1) hx hb dX0_growth_4 (by decide) ?_
  refine lv_icmp_eq (tgt := 16) hx hb dX0_growth_5 (by decide) (fun c1 => ?_) (fun c1 => ?_)
  · rw [if_pos c1] at h
    exact L_X0_growth_16 C0 hi0 h _ _ _ hR (lv_sub hl [0, 1] rfl)
  · rw [if_neg c1] at h
    refine lv_aload_n hx hb dX0_growth_8 rfl (lv_at hl 0 rfl) ?_
    refine mm_get hx hb hts hown hR 1 i0 0 (mm_vld 1 (by decide) i0 hi0) (v := .int (f 1 i0 0)) rfl rfl iX0 (by decide) lk_0 rfl dX0_growth_9 ?_
    refine lv_iconst (v := 2) hx hb dX0_growth_12 (by decide) ?_
    refine lv_icmp_ne (tgt := 20) hx hb dX0_growth_13 (by decide) (fun c2 => ?_) (fun c2 => ?_)
    · rw [if_neg c2] at h
      refine lv_iconst (v := 0) hx hb dX0_growth_20 (by decide) ?_
      exact L_X0_growth_21 C0 hi0 h _ _ _ hR (lv_sub hl [0, 1] rfl)
    · rw [if_pos c2] at h
      exact L_X0_growth_16 C0 hi0 h _ _ _ hR (lv_sub hl [0, 1] rfl)
def S_X0_healOneHour (f : F3) (i0 : Nat) : Option F3 := mm_let (up f 1 i0 6 ((f 1 i0 6) + 1)) fun f1 => if (f1 1 i0 6) < 24 then (some f1) else (Option.bind (S_X0_become f1 i0 0) fun f3 => mm_let (up f3 1 i0 5 0) fun f4 => some f4)
set_option maxHeartbeats 4000000 in
set_option maxRecDepth 100000 in
theorem T_X0_healOneHour (G : mmG) {f f' : F3} {i0 : Nat} (hi0 : i0 < mm_cnt 1) (h : S_X0_healOneHour f i0 = some f') : mmM G yX0_healOneHour cX0_healOneHour 1 none 1 [.ref (ra G 1 i0)] f none f' := by
  refine mm_start (by decide +kernel) (Nat.le_of_ble_eq_true rfl) ?_
  intro p e s m args below meth c ls C0 hR hl
  obtain ⟨hx, hb, hml, hr, hown, hts, hlocks⟩ := id C0
  have hl : lv_has ls 1 [(0, .ref (ra G 1 i0))] := hl
  rw [S_X0_healOneHour] at h
  refine lv_aload_n hx hb dX0_healOneHour_0 rfl (lv_at hl 0 rfl) ?_
  refine lv_dup hx hb dX0_healOneHour_1 rfl ?_
  refine mm_get hx hb hts hown hR 1 i0 6 (mm_vld 1 (by decide) i0 hi0) (v := .int (f 1 i0 6)) rfl rfl iX0 (by decide) lk_4 rfl dX0_healOneHour_2 ?_
  refine lv_iconst (v := 1) hx hb dX0_healOneHour_5 (by decide) ?_
  refine lv_iadd hx hb dX0_healOneHour_6 ?_
  obtain ⟨f1, ef1, h⟩ := mm_lt h
  refine mm_put hx hb hts hown hR 1 i0 6 (by decide) (mm_vld 1 (by decide) i0 hi0) (x := (f 1 i0 6) + 1) rfl rfl iX0 tyX0 tyX0_ok nmX0 (by decide) lk_4 rfl rfl rfl (Nat.le_of_ble_eq_true rfl) rfl dX0_healOneHour_7 (fun H locs hR => ?_)
  rw [← ef1] at hR
  refine lv_aload_n hx hb dX0_healOneHour_10 rfl (lv_at hl 0 rfl) ?_
  refine mm_get hx hb hts hown hR 1 i0 6 (mm_vld 1 (by decide) i0 hi0) (v := .int (f1 1 i0 6)) rfl rfl iX0 (by decide) lk_4 rfl dX0_healOneHour_11 ?_
  refine lv_bipush (v := 24) hx hb dX0_healOneHour_14 (by decide) ?_
  refine lv_icmp_lt (tgt := 29) hx hb dX0_healOneHour_16 (by decide) (fun c2 => ?_) (fun c2 => ?_)
  · rw [if_pos c2] at h
    obtain rfl := mm_p1 h
    exact mm_vret C0 hR dX0_healOneHour_29
  · rw [if_neg c2] at h
    refine lv_aload_n hx hb dX0_healOneHour_19 rfl (lv_at hl 0 rfl) ?_
    refine lv_iconst (v := 0) hx hb dX0_healOneHour_20 (by decide) ?_
    obtain ⟨f3, ef3, h⟩ := mm_bind h
    refine mm_callV (v := none) (f1 := f3) (d0 := 0) (rest := []) [.int 0] C0 rfl hR 1 i0 (T_X0_become G hi0 ef3) ws_X0_become lk_2 hd_X0_become ⟨by decide, by decide⟩ (mm_vld 1 (by decide) i0 hi0) rfl rfl rfl hl.1 rfl (Nat.le_of_ble_eq_true rfl) dX0_healOneHour_21 (fun H locs hR => ?_)
    refine W.eq (g2 := F0 m 24 ls ([])) rfl ?_
    refine lv_aload_n hx hb dX0_healOneHour_24 rfl (lv_at hl 0 rfl) ?_
    refine lv_iconst (v := 0) hx hb dX0_healOneHour_25 (by decide) ?_
    obtain ⟨f4, ef4, h⟩ := mm_lt h
    refine mm_put hx hb hts hown hR 1 i0 5 (by decide) (mm_vld 1 (by decide) i0 hi0) (x := 0) rfl rfl iX0 tyX0 tyX0_ok nmX0 (by decide) lk_3 rfl rfl rfl (Nat.le_of_ble_eq_true rfl) rfl dX0_healOneHour_26 (fun H locs hR => ?_)
    rw [← ef4] at hR
    obtain rfl := mm_p1 h
    exact mm_vret C0 hR dX0_healOneHour_29
def S_X0_holdsUp_25 (f : F3) (s0 : Int32) (i0 : Nat) : Option (Int32 × F3) := if (((f 1 i0 1) * (f 1 i0 1)) / 10000) < s0 then (some (0, f)) else (some (1, f))
set_option maxHeartbeats 4000000 in
set_option maxRecDepth 100000 in
theorem L_X0_holdsUp_25 {G : mmG} {p : Program} {e : Env} {s : State} {m : MethodId} {args : Array Value} {below : List Frame} {meth : Method} {c : Code} {f' : F3} {rv : Int32} (C0 : mmC yX0_holdsUp cX0_holdsUp 3 (some .boolean) p s m args meth c) {f : F3} {s0 : Int32} {i0 : Nat} (hi0 : i0 < mm_cnt 1) (h : S_X0_holdsUp_25 f s0 i0 = some (rv, f')) (H : Heap) (locs : List Loc) (ls : Array Slot) (hR : mm_R G mm_NT f (GG f) s H locs) (hl : lv_has ls 3 [(0, .ref (ra G 1 i0))]) : W p G.1 e (mm_rm 0) s m args below meth c H locs 0 0 (MQ below (mm_Q G mm_NT (some (.int rv)) f' (GG f')) args s 0 0 (mm_A G)) (F0 m 25 ls [.int s0]) := by
  obtain ⟨hx, hb, hml, hr, hown, hts, hlocks⟩ := id C0
  rw [S_X0_holdsUp_25] at h
  refine lv_istore_n (lv' := [(2, .int s0), (0, .ref (ra G 1 i0))]) hx hb dX0_holdsUp_25 rfl hl (by decide) rfl (fun ls hl => ?_)
  refine lv_aload_n hx hb dX0_holdsUp_26 rfl (lv_at hl 1 rfl) ?_
  refine mm_get hx hb hts hown hR 1 i0 1 (mm_vld 1 (by decide) i0 hi0) (v := .int (f 1 i0 1)) rfl rfl iX0 (by decide) lk_5 rfl dX0_holdsUp_27 ?_
  refine lv_aload_n hx hb dX0_holdsUp_30 rfl (lv_at hl 1 rfl) ?_
  refine mm_get hx hb hts hown hR 1 i0 1 (mm_vld 1 (by decide) i0 hi0) (v := .int (f 1 i0 1)) rfl rfl iX0 (by decide) lk_5 rfl dX0_holdsUp_31 ?_
  refine lv_imul hx hb dX0_holdsUp_34 ?_
  refine lv_sipush (v := 10000) hx hb dX0_holdsUp_35 (by decide) ?_
  refine lv_idiv hx hb dX0_holdsUp_38 (by decide) ?_
  refine lv_iload_n hx hb dX0_holdsUp_39 rfl (lv_at hl 0 rfl) ?_
  refine lv_icmp_lt (tgt := 47) hx hb dX0_holdsUp_40 (by decide) (fun c3 => ?_) (fun c3 => ?_)
  · rw [if_pos c3] at h
    refine lv_iconst (v := 0) hx hb dX0_holdsUp_47 (by decide) ?_
    obtain ⟨rfl, rfl⟩ := mm_pr h
    exact mm_zret C0 rfl hR dX0_holdsUp_48
  · rw [if_neg c3] at h
    refine lv_iconst (v := 1) hx hb dX0_holdsUp_43 (by decide) ?_
    refine lv_goto (tgt := 48) hx hb dX0_holdsUp_44 (by decide) ?_
    obtain ⟨rfl, rfl⟩ := mm_pr h
    exact mm_zret C0 rfl hR dX0_holdsUp_48
def S_X0_holdsUp (f : F3) (i0 : Nat) (x1 : Int32) : Option (Int32 × F3) := if (f 1 i0 0) = 4 then (some (1, f)) else (if (f 1 i0 0) = 3 then (S_X0_holdsUp_25 f (2 * x1) i0) else (S_X0_holdsUp_25 f x1 i0))
set_option maxHeartbeats 4000000 in
set_option maxRecDepth 100000 in
theorem T_X0_holdsUp (G : mmG) {f f' : F3} {rv : Int32} {i0 : Nat} {x1 : Int32} (hi0 : i0 < mm_cnt 1) (h : S_X0_holdsUp f i0 x1 = some (rv, f')) : mmM G yX0_holdsUp cX0_holdsUp 3 (some .boolean) 0 [.ref (ra G 1 i0), .int x1] f (some (.int rv)) f' := by
  refine mm_start (by decide +kernel) (Nat.le_of_ble_eq_true rfl) ?_
  intro p e s m args below meth c ls C0 hR hl
  obtain ⟨hx, hb, hml, hr, hown, hts, hlocks⟩ := id C0
  have hl : lv_has ls 3 [(0, .ref (ra G 1 i0)), (1, .int x1)] := hl
  rw [S_X0_holdsUp] at h
  refine lv_aload_n hx hb dX0_holdsUp_0 rfl (lv_at hl 0 rfl) ?_
  refine mm_get hx hb hts hown hR 1 i0 0 (mm_vld 1 (by decide) i0 hi0) (v := .int (f 1 i0 0)) rfl rfl iX0 (by decide) lk_0 rfl dX0_holdsUp_1 ?_
  refine lv_iconst (v := 4) hx hb dX0_holdsUp_4 (by decide) ?_
  refine lv_icmp_ne (tgt := 10) hx hb dX0_holdsUp_5 (by decide) (fun c1 => ?_) (fun c1 => ?_)
  · rw [if_neg c1] at h
    refine lv_aload_n hx hb dX0_holdsUp_10 rfl (lv_at hl 0 rfl) ?_
    refine mm_get hx hb hts hown hR 1 i0 0 (mm_vld 1 (by decide) i0 hi0) (v := .int (f 1 i0 0)) rfl rfl iX0 (by decide) lk_0 rfl dX0_holdsUp_11 ?_
    refine lv_iconst (v := 3) hx hb dX0_holdsUp_14 (by decide) ?_
    refine lv_icmp_ne (tgt := 24) hx hb dX0_holdsUp_15 (by decide) (fun c2 => ?_) (fun c2 => ?_)
    · rw [if_neg c2] at h
      refine lv_iload_n hx hb dX0_holdsUp_24 rfl (lv_at hl 1 rfl) ?_
      exact L_X0_holdsUp_25 C0 hi0 h _ _ _ hR (lv_sub hl [0] rfl)
    · rw [if_pos c2] at h
      refine lv_iconst (v := 2) hx hb dX0_holdsUp_18 (by decide) ?_
      refine lv_iload_n hx hb dX0_holdsUp_19 rfl (lv_at hl 1 rfl) ?_
      refine lv_imul hx hb dX0_holdsUp_20 ?_
      refine lv_goto (tgt := 25) hx hb dX0_holdsUp_21 (by decide) ?_
      exact L_X0_holdsUp_25 C0 hi0 h _ _ _ hR (lv_sub hl [0] rfl)
  · rw [if_pos c1] at h
    refine lv_iconst (v := 1) hx hb dX0_holdsUp_8 (by decide) ?_
    obtain ⟨rfl, rfl⟩ := mm_pr h
    exact mm_zret C0 rfl hR dX0_holdsUp_9
def S_X0_lastCome (f : F3) (i0 : Nat) (x1 : Int32) : Option (Int32 × F3) := if x1 = 0 then (some (f 1 i0 8, f)) else (some (f 1 i0 9, f))
set_option maxHeartbeats 4000000 in
set_option maxRecDepth 100000 in
theorem T_X0_lastCome (G : mmG) {f f' : F3} {rv : Int32} {i0 : Nat} {x1 : Int32} (hi0 : i0 < mm_cnt 1) (h : S_X0_lastCome f i0 x1 = some (rv, f')) : mmM G yX0_lastCome cX0_lastCome 2 (some .int) 0 [.ref (ra G 1 i0), .int x1] f (some (.int rv)) f' := by
  refine mm_start (by decide +kernel) (Nat.le_of_ble_eq_true rfl) ?_
  intro p e s m args below meth c ls C0 hR hl
  obtain ⟨hx, hb, hml, hr, hown, hts, hlocks⟩ := id C0
  have hl : lv_has ls 2 [(0, .ref (ra G 1 i0)), (1, .int x1)] := hl
  rw [S_X0_lastCome] at h
  refine lv_iload_n hx hb dX0_lastCome_0 rfl (lv_at hl 1 rfl) ?_
  refine lv_if_ne (tgt := 11) hx hb dX0_lastCome_1 (by decide) (fun c1 => ?_) (fun c1 => ?_)
  · rw [if_neg c1] at h
    refine lv_aload_n hx hb dX0_lastCome_11 rfl (lv_at hl 0 rfl) ?_
    refine mm_get hx hb hts hown hR 1 i0 9 (mm_vld 1 (by decide) i0 hi0) (v := .int (f 1 i0 9)) rfl rfl iX0 (by decide) lk_7 rfl dX0_lastCome_12 ?_
    obtain ⟨rfl, rfl⟩ := mm_pr h
    exact mm_iret C0 hR dX0_lastCome_15
  · rw [if_pos c1] at h
    refine lv_aload_n hx hb dX0_lastCome_4 rfl (lv_at hl 0 rfl) ?_
    refine mm_get hx hb hts hown hR 1 i0 8 (mm_vld 1 (by decide) i0 hi0) (v := .int (f 1 i0 8)) rfl rfl iX0 (by decide) lk_8 rfl dX0_lastCome_5 ?_
    refine lv_goto (tgt := 15) hx hb dX0_lastCome_8 (by decide) ?_
    obtain ⟨rfl, rfl⟩ := mm_pr h
    exact mm_iret C0 hR dX0_lastCome_15
def S_X0_lay (f : F3) (i0 : Nat) (x1 : Int32) (x2 : Int32) (x3 : Int32) : Option F3 := mm_let (up f 1 i0 3 x1) fun f1 => mm_let (up f1 1 i0 4 x2) fun f2 => mm_let (up f2 1 i0 0 x3) fun f3 => some f3
set_option maxHeartbeats 4000000 in
set_option maxRecDepth 100000 in
theorem T_X0_lay (G : mmG) {f f' : F3} {i0 : Nat} {x1 : Int32} {x2 : Int32} {x3 : Int32} (hi0 : i0 < mm_cnt 1) (h : S_X0_lay f i0 x1 x2 x3 = some f') : mmM G yX0_lay cX0_lay 4 none 0 [.ref (ra G 1 i0), .int x1, .int x2, .int x3] f none f' := by
  refine mm_start (by decide +kernel) (Nat.le_of_ble_eq_true rfl) ?_
  intro p e s m args below meth c ls C0 hR hl
  obtain ⟨hx, hb, hml, hr, hown, hts, hlocks⟩ := id C0
  have hl : lv_has ls 4 [(0, .ref (ra G 1 i0)), (1, .int x1), (2, .int x2), (3, .int x3)] := hl
  rw [S_X0_lay] at h
  refine lv_aload_n hx hb dX0_lay_0 rfl (lv_at hl 0 rfl) ?_
  refine lv_iload_n hx hb dX0_lay_1 rfl (lv_at hl 1 rfl) ?_
  obtain ⟨f1, ef1, h⟩ := mm_lt h
  refine mm_put hx hb hts hown hR 1 i0 3 (by decide) (mm_vld 1 (by decide) i0 hi0) (x := x1) rfl rfl iX0 tyX0 tyX0_ok nmX0 (by decide) lk_9 rfl rfl rfl (Nat.le_of_ble_eq_true rfl) rfl dX0_lay_2 (fun H locs hR => ?_)
  rw [← ef1] at hR
  refine lv_aload_n hx hb dX0_lay_5 rfl (lv_at hl 0 rfl) ?_
  refine lv_iload_n hx hb dX0_lay_6 rfl (lv_at hl 2 rfl) ?_
  obtain ⟨f2, ef2, h⟩ := mm_lt h
  refine mm_put hx hb hts hown hR 1 i0 4 (by decide) (mm_vld 1 (by decide) i0 hi0) (x := x2) rfl rfl iX0 tyX0 tyX0_ok nmX0 (by decide) lk_10 rfl rfl rfl (Nat.le_of_ble_eq_true rfl) rfl dX0_lay_7 (fun H locs hR => ?_)
  rw [← ef2] at hR
  refine lv_aload_n hx hb dX0_lay_10 rfl (lv_at hl 0 rfl) ?_
  refine lv_iload_n hx hb dX0_lay_11 rfl (lv_at hl 3 rfl) ?_
  obtain ⟨f3, ef3, h⟩ := mm_lt h
  refine mm_put hx hb hts hown hR 1 i0 0 (by decide) (mm_vld 1 (by decide) i0 hi0) (x := x3) rfl rfl iX0 tyX0 tyX0_ok nmX0 (by decide) lk_0 rfl rfl rfl (Nat.le_of_ble_eq_true rfl) rfl dX0_lay_12 (fun H locs hR => ?_)
  rw [← ef3] at hR
  obtain rfl := mm_p1 h
  exact mm_vret C0 hR dX0_lay_15
def S_X0_noteCome (f : F3) (i0 : Nat) (x1 : Int32) (x2 : Int32) : Option F3 := if x1 = 0 then (mm_let (up f 1 i0 8 x2) fun f3 => some f3) else (mm_let (up f 1 i0 9 x2) fun f2 => some f2)
set_option maxHeartbeats 4000000 in
set_option maxRecDepth 100000 in
theorem T_X0_noteCome (G : mmG) {f f' : F3} {i0 : Nat} {x1 : Int32} {x2 : Int32} (hi0 : i0 < mm_cnt 1) (h : S_X0_noteCome f i0 x1 x2 = some f') : mmM G yX0_noteCome cX0_noteCome 3 none 0 [.ref (ra G 1 i0), .int x1, .int x2] f none f' := by
  refine mm_start (by decide +kernel) (Nat.le_of_ble_eq_true rfl) ?_
  intro p e s m args below meth c ls C0 hR hl
  obtain ⟨hx, hb, hml, hr, hown, hts, hlocks⟩ := id C0
  have hl : lv_has ls 3 [(0, .ref (ra G 1 i0)), (1, .int x1), (2, .int x2)] := hl
  rw [S_X0_noteCome] at h
  refine lv_iload_n hx hb dX0_noteCome_0 rfl (lv_at hl 1 rfl) ?_
  refine lv_if_ne (tgt := 12) hx hb dX0_noteCome_1 (by decide) (fun c1 => ?_) (fun c1 => ?_)
  · rw [if_neg c1] at h
    refine lv_aload_n hx hb dX0_noteCome_12 rfl (lv_at hl 0 rfl) ?_
    refine lv_iload_n hx hb dX0_noteCome_13 rfl (lv_at hl 2 rfl) ?_
    obtain ⟨f2, ef2, h⟩ := mm_lt h
    refine mm_put hx hb hts hown hR 1 i0 9 (by decide) (mm_vld 1 (by decide) i0 hi0) (x := x2) rfl rfl iX0 tyX0 tyX0_ok nmX0 (by decide) lk_7 rfl rfl rfl (Nat.le_of_ble_eq_true rfl) rfl dX0_noteCome_14 (fun H locs hR => ?_)
    rw [← ef2] at hR
    obtain rfl := mm_p1 h
    exact mm_vret C0 hR dX0_noteCome_17
  · rw [if_pos c1] at h
    refine lv_aload_n hx hb dX0_noteCome_4 rfl (lv_at hl 0 rfl) ?_
    refine lv_iload_n hx hb dX0_noteCome_5 rfl (lv_at hl 2 rfl) ?_
    obtain ⟨f3, ef3, h⟩ := mm_lt h
    refine mm_put hx hb hts hown hR 1 i0 8 (by decide) (mm_vld 1 (by decide) i0 hi0) (x := x2) rfl rfl iX0 tyX0 tyX0_ok nmX0 (by decide) lk_8 rfl rfl rfl (Nat.le_of_ble_eq_true rfl) rfl dX0_noteCome_6 (fun H locs hR => ?_)
    rw [← ef3] at hR
    refine lv_goto (tgt := 17) hx hb dX0_noteCome_9 (by decide) ?_
    obtain rfl := mm_p1 h
    exact mm_vret C0 hR dX0_noteCome_17
def S_X0_passHour_59 (f : F3) (i0 : Nat) (x1 : Int32) : Option F3 := if (f 1 i0 0) = 3 then (if (-100) ≤ x1 then (some f) else (Option.bind (S_X0_healOneHour f i0) fun f10 => some f10)) else (some f)
set_option maxHeartbeats 4000000 in
set_option maxRecDepth 100000 in
theorem L_X0_passHour_59 {G : mmG} {p : Program} {e : Env} {s : State} {m : MethodId} {args : Array Value} {below : List Frame} {meth : Method} {c : Code} {f' : F3} (C0 : mmC yX0_passHour cX0_passHour 2 none p s m args meth c) {f : F3} {i0 : Nat} {x1 : Int32} (hi0 : i0 < mm_cnt 1) (h : S_X0_passHour_59 f i0 x1 = some f') (H : Heap) (locs : List Loc) (ls : Array Slot) (hR : mm_R G mm_NT f (GG f) s H locs) (hl : lv_has ls 2 [(0, .ref (ra G 1 i0)), (1, .int x1)]) : W p G.1 e (mm_rm 2) s m args below meth c H locs 0 0 (MQ below (mm_Q G mm_NT none f' (GG f')) args s 0 0 (mm_A G)) (F0 m 59 ls []) := by
  obtain ⟨hx, hb, hml, hr, hown, hts, hlocks⟩ := id C0
  rw [S_X0_passHour_59] at h
  refine lv_aload_n hx hb dX0_passHour_59 rfl (lv_at hl 0 rfl) ?_
  refine mm_get hx hb hts hown hR 1 i0 0 (mm_vld 1 (by decide) i0 hi0) (v := .int (f 1 i0 0)) rfl rfl iX0 (by decide) lk_0 rfl dX0_passHour_60 ?_
  refine lv_iconst (v := 3) hx hb dX0_passHour_63 (by decide) ?_
  refine lv_icmp_ne (tgt := 77) hx hb dX0_passHour_64 (by decide) (fun c8 => ?_) (fun c8 => ?_)
  · rw [if_neg c8] at h
    obtain rfl := mm_p1 h
    exact mm_vret C0 hR dX0_passHour_77
  · rw [if_pos c8] at h
    refine lv_iload_n hx hb dX0_passHour_67 rfl (lv_at hl 1 rfl) ?_
    refine lv_bipush (v := (-100)) hx hb dX0_passHour_68 (by decide) ?_
    refine lv_icmp_ge (tgt := 77) hx hb dX0_passHour_70 (by decide) (fun c9 => ?_) (fun c9 => ?_)
    · rw [if_pos c9] at h
      obtain rfl := mm_p1 h
      exact mm_vret C0 hR dX0_passHour_77
    · rw [if_neg c9] at h
      refine lv_aload_n hx hb dX0_passHour_73 rfl (lv_at hl 0 rfl) ?_
      obtain ⟨f10, ef10, h⟩ := mm_bind h
      refine mm_callV (v := none) (f1 := f10) (d0 := 1) (rest := []) [] C0 rfl hR 1 i0 (T_X0_healOneHour G hi0 ef10) ws_X0_healOneHour lk_19 hd_X0_healOneHour ⟨by decide, by decide⟩ (mm_vld 1 (by decide) i0 hi0) rfl rfl rfl hl.1 rfl (Nat.le_of_ble_eq_true rfl) dX0_passHour_74 (fun H locs hR => ?_)
      refine W.eq (g2 := F0 m 77 ls ([])) rfl ?_
      obtain rfl := mm_p1 h
      exact mm_vret C0 hR dX0_passHour_77
def S_X0_passHour (f : F3) (i0 : Nat) (x1 : Int32) : Option F3 := if (f 1 i0 0) = 4 then (some f) else (if 0 ≤ x1 then (if x1 ≤ 0 then (S_X0_passHour_59 f i0 x1) else (mm_let (up f 1 i0 1 (if 0 < (f 1 i0 1) - ((x1 / 10) + 1) then (f 1 i0 1) - ((x1 / 10) + 1) else 0)) fun f4 => S_X0_passHour_59 f4 i0 x1)) else (mm_b2 (S_X0_growth f i0 x1) fun r6 f5 => mm_let (up f5 1 i0 1 (if (f 1 i0 1) + r6 < 3000 then (f 1 i0 1) + r6 else 3000)) fun f7 => S_X0_passHour_59 f7 i0 x1))
set_option maxHeartbeats 4000000 in
set_option maxRecDepth 100000 in
theorem T_X0_passHour (G : mmG) {f f' : F3} {i0 : Nat} {x1 : Int32} (hi0 : i0 < mm_cnt 1) (h : S_X0_passHour f i0 x1 = some f') : mmM G yX0_passHour cX0_passHour 2 none 2 [.ref (ra G 1 i0), .int x1] f none f' := by
  refine mm_start (by decide +kernel) (Nat.le_of_ble_eq_true rfl) ?_
  intro p e s m args below meth c ls C0 hR hl
  obtain ⟨hx, hb, hml, hr, hown, hts, hlocks⟩ := id C0
  have hl : lv_has ls 2 [(0, .ref (ra G 1 i0)), (1, .int x1)] := hl
  rw [S_X0_passHour] at h
  refine lv_aload_n hx hb dX0_passHour_0 rfl (lv_at hl 0 rfl) ?_
  refine mm_get hx hb hts hown hR 1 i0 0 (mm_vld 1 (by decide) i0 hi0) (v := .int (f 1 i0 0)) rfl rfl iX0 (by decide) lk_0 rfl dX0_passHour_1 ?_
  refine lv_iconst (v := 4) hx hb dX0_passHour_4 (by decide) ?_
  refine lv_icmp_ne (tgt := 9) hx hb dX0_passHour_5 (by decide) (fun c1 => ?_) (fun c1 => ?_)
  · rw [if_neg c1] at h
    refine lv_iload_n hx hb dX0_passHour_9 rfl (lv_at hl 1 rfl) ?_
    refine lv_if_ge (tgt := 36) hx hb dX0_passHour_10 (by decide) (fun c2 => ?_) (fun c2 => ?_)
    · rw [if_pos c2] at h
      refine lv_iload_n hx hb dX0_passHour_36 rfl (lv_at hl 1 rfl) ?_
      refine lv_if_le (tgt := 59) hx hb dX0_passHour_37 (by decide) (fun c3 => ?_) (fun c3 => ?_)
      · rw [if_pos c3] at h
        exact L_X0_passHour_59 C0 hi0 h _ _ _ hR (lv_sub hl [0, 1] rfl)
      · rw [if_neg c3] at h
        refine lv_aload_n hx hb dX0_passHour_40 rfl (lv_at hl 0 rfl) ?_
        refine lv_iconst (v := 0) hx hb dX0_passHour_41 (by decide) ?_
        refine lv_aload_n hx hb dX0_passHour_42 rfl (lv_at hl 0 rfl) ?_
        refine mm_get hx hb hts hown hR 1 i0 1 (mm_vld 1 (by decide) i0 hi0) (v := .int (f 1 i0 1)) rfl rfl iX0 (by decide) lk_5 rfl dX0_passHour_43 ?_
        refine lv_iload_n hx hb dX0_passHour_46 rfl (lv_at hl 1 rfl) ?_
        refine lv_bipush (v := 10) hx hb dX0_passHour_47 (by decide) ?_
        refine lv_idiv hx hb dX0_passHour_49 (by decide) ?_
        refine lv_iconst (v := 1) hx hb dX0_passHour_50 (by decide) ?_
        refine lv_iadd hx hb dX0_passHour_51 ?_
        refine lv_isub hx hb dX0_passHour_52 ?_
        refine va_mmax hx hb (hml.trans hl.1.symm) hown (hts _ lk_11) (hts _ lk_12) (hts _ lk_13) (hts _ lk_14) (by decide) (Nat.le_of_ble_eq_true rfl) (by decide) (by decide) dX0_passHour_53 ?_
        obtain ⟨f4, ef4, h⟩ := mm_lt h
        refine mm_put hx hb hts hown hR 1 i0 1 (by decide) (mm_vld 1 (by decide) i0 hi0) (x := (if 0 < (f 1 i0 1) - ((x1 / 10) + 1) then (f 1 i0 1) - ((x1 / 10) + 1) else 0)) rfl rfl iX0 tyX0 tyX0_ok nmX0 (by decide) lk_5 rfl rfl rfl (Nat.le_of_ble_eq_true rfl) rfl dX0_passHour_56 (fun H locs hR => ?_)
        rw [← ef4] at hR
        exact L_X0_passHour_59 C0 hi0 h _ _ _ hR (lv_sub hl [0, 1] rfl)
    · rw [if_neg c2] at h
      refine lv_aload_n hx hb dX0_passHour_13 rfl (lv_at hl 0 rfl) ?_
      refine lv_sipush (v := 3000) hx hb dX0_passHour_14 (by decide) ?_
      refine lv_aload_n hx hb dX0_passHour_17 rfl (lv_at hl 0 rfl) ?_
      refine mm_get hx hb hts hown hR 1 i0 1 (mm_vld 1 (by decide) i0 hi0) (v := .int (f 1 i0 1)) rfl rfl iX0 (by decide) lk_5 rfl dX0_passHour_18 ?_
      refine lv_aload_n hx hb dX0_passHour_21 rfl (lv_at hl 0 rfl) ?_
      refine lv_iload_n hx hb dX0_passHour_22 rfl (lv_at hl 1 rfl) ?_
      obtain ⟨r6, f5, ef5, h⟩ := mm_b2e h
      refine mm_callV (v := some (.int r6)) (f1 := f5) (d0 := 0) (rest := [.int (f 1 i0 1), .int 3000, .ref (ra G 1 i0)]) [.int x1] C0 rfl hR 1 i0 (T_X0_growth G hi0 ef5) ws_X0_growth lk_15 hd_X0_growth ⟨by decide, by decide⟩ (mm_vld 1 (by decide) i0 hi0) rfl rfl rfl hl.1 rfl (Nat.le_of_ble_eq_true rfl) dX0_passHour_23 (fun H locs hR => ?_)
      refine W.eq (g2 := F0 m 26 ls (.int r6 :: .int (f 1 i0 1) :: .int 3000 :: .ref (ra G 1 i0) :: [])) rfl ?_
      refine lv_iadd hx hb dX0_passHour_26 ?_
      refine va_mmin hx hb (hml.trans hl.1.symm) hown (hts _ lk_16) (hts _ lk_17) (hts _ lk_13) (hts _ lk_18) (by decide) (Nat.le_of_ble_eq_true rfl) (by decide) (by decide) dX0_passHour_27 ?_
      obtain ⟨f7, ef7, h⟩ := mm_lt h
      refine mm_put hx hb hts hown hR 1 i0 1 (by decide) (mm_vld 1 (by decide) i0 hi0) (x := (if (f 1 i0 1) + r6 < 3000 then (f 1 i0 1) + r6 else 3000)) rfl rfl iX0 tyX0 tyX0_ok nmX0 (by decide) lk_5 rfl rfl rfl (Nat.le_of_ble_eq_true rfl) rfl dX0_passHour_30 (fun H locs hR => ?_)
      rw [← ef7] at hR
      refine lv_goto (tgt := 59) hx hb dX0_passHour_33 (by decide) ?_
      exact L_X0_passHour_59 C0 hi0 h _ _ _ hR (lv_sub hl [0, 1] rfl)
  · rw [if_pos c1] at h
    obtain rfl := mm_p1 h
    exact mm_vret C0 hR dX0_passHour_8
def S_X0_takeAfter (f : F3) (i0 : Nat) (i1 : Nat) : Option F3 := mm_let (up f 1 i0 0 (f 1 i1 0)) fun f1 => mm_let (up f1 1 i0 1 (f1 1 i1 1)) fun f2 => mm_let (up f2 1 i0 2 (f2 1 i1 2)) fun f3 => mm_let (up f3 1 i0 6 (f3 1 i1 6)) fun f4 => some f4
set_option maxHeartbeats 4000000 in
set_option maxRecDepth 100000 in
theorem T_X0_takeAfter (G : mmG) {f f' : F3} {i0 : Nat} {i1 : Nat} (hi0 : i0 < mm_cnt 1) (hi1 : i1 < mm_cnt 1) (h : S_X0_takeAfter f i0 i1 = some f') : mmM G yX0_takeAfter cX0_takeAfter 2 none 0 [.ref (ra G 1 i0), .ref (ra G 1 i1)] f none f' := by
  refine mm_start (by decide +kernel) (Nat.le_of_ble_eq_true rfl) ?_
  intro p e s m args below meth c ls C0 hR hl
  obtain ⟨hx, hb, hml, hr, hown, hts, hlocks⟩ := id C0
  have hl : lv_has ls 2 [(0, .ref (ra G 1 i0)), (1, .ref (ra G 1 i1))] := hl
  rw [S_X0_takeAfter] at h
  refine lv_aload_n hx hb dX0_takeAfter_0 rfl (lv_at hl 0 rfl) ?_
  refine lv_aload_n hx hb dX0_takeAfter_1 rfl (lv_at hl 1 rfl) ?_
  refine mm_get hx hb hts hown hR 1 i1 0 (mm_vld 1 (by decide) i1 hi1) (v := .int (f 1 i1 0)) rfl rfl iX0 (by decide) lk_0 rfl dX0_takeAfter_2 ?_
  obtain ⟨f1, ef1, h⟩ := mm_lt h
  refine mm_put hx hb hts hown hR 1 i0 0 (by decide) (mm_vld 1 (by decide) i0 hi0) (x := f 1 i1 0) rfl rfl iX0 tyX0 tyX0_ok nmX0 (by decide) lk_0 rfl rfl rfl (Nat.le_of_ble_eq_true rfl) rfl dX0_takeAfter_5 (fun H locs hR => ?_)
  rw [← ef1] at hR
  refine lv_aload_n hx hb dX0_takeAfter_8 rfl (lv_at hl 0 rfl) ?_
  refine lv_aload_n hx hb dX0_takeAfter_9 rfl (lv_at hl 1 rfl) ?_
  refine mm_get hx hb hts hown hR 1 i1 1 (mm_vld 1 (by decide) i1 hi1) (v := .int (f1 1 i1 1)) rfl rfl iX0 (by decide) lk_5 rfl dX0_takeAfter_10 ?_
  obtain ⟨f2, ef2, h⟩ := mm_lt h
  refine mm_put hx hb hts hown hR 1 i0 1 (by decide) (mm_vld 1 (by decide) i0 hi0) (x := f1 1 i1 1) rfl rfl iX0 tyX0 tyX0_ok nmX0 (by decide) lk_5 rfl rfl rfl (Nat.le_of_ble_eq_true rfl) rfl dX0_takeAfter_13 (fun H locs hR => ?_)
  rw [← ef2] at hR
  refine lv_aload_n hx hb dX0_takeAfter_16 rfl (lv_at hl 0 rfl) ?_
  refine lv_aload_n hx hb dX0_takeAfter_17 rfl (lv_at hl 1 rfl) ?_
  refine mm_get hx hb hts hown hR 1 i1 2 (mm_vld 1 (by decide) i1 hi1) (v := .int (f2 1 i1 2)) rfl rfl iX0 (by decide) lk_6 rfl dX0_takeAfter_18 ?_
  obtain ⟨f3, ef3, h⟩ := mm_lt h
  refine mm_put hx hb hts hown hR 1 i0 2 (by decide) (mm_vld 1 (by decide) i0 hi0) (x := f2 1 i1 2) rfl rfl iX0 tyX0 tyX0_ok nmX0 (by decide) lk_6 rfl rfl rfl (Nat.le_of_ble_eq_true rfl) rfl dX0_takeAfter_21 (fun H locs hR => ?_)
  rw [← ef3] at hR
  refine lv_aload_n hx hb dX0_takeAfter_24 rfl (lv_at hl 0 rfl) ?_
  refine lv_aload_n hx hb dX0_takeAfter_25 rfl (lv_at hl 1 rfl) ?_
  refine mm_get hx hb hts hown hR 1 i1 6 (mm_vld 1 (by decide) i1 hi1) (v := .int (f3 1 i1 6)) rfl rfl iX0 (by decide) lk_4 rfl dX0_takeAfter_26 ?_
  obtain ⟨f4, ef4, h⟩ := mm_lt h
  refine mm_put hx hb hts hown hR 1 i0 6 (by decide) (mm_vld 1 (by decide) i0 hi0) (x := f3 1 i1 6) rfl rfl iX0 tyX0 tyX0_ok nmX0 (by decide) lk_4 rfl rfl rfl (Nat.le_of_ble_eq_true rfl) rfl dX0_takeAfter_29 (fun H locs hR => ?_)
  rw [← ef4] at hR
  obtain rfl := mm_p1 h
  exact mm_vret C0 hR dX0_takeAfter_32
def S_X0_takeSnow_49 (f : F3) (i0 : Nat) : Option (Int32 × F3) := Option.bind (S_X0_become f i0 0) fun f6 => some (1, f6)
set_option maxHeartbeats 4000000 in
set_option maxRecDepth 100000 in
theorem L_X0_takeSnow_49 {G : mmG} {p : Program} {e : Env} {s : State} {m : MethodId} {args : Array Value} {below : List Frame} {meth : Method} {c : Code} {f' : F3} {rv : Int32} (C0 : mmC yX0_takeSnow cX0_takeSnow 2 (some .boolean) p s m args meth c) {f : F3} {i0 : Nat} (hi0 : i0 < mm_cnt 1) (h : S_X0_takeSnow_49 f i0 = some (rv, f')) (H : Heap) (locs : List Loc) (ls : Array Slot) (hR : mm_R G mm_NT f (GG f) s H locs) (hl : lv_has ls 2 [(0, .ref (ra G 1 i0))]) : W p G.1 e (mm_rm 1) s m args below meth c H locs 0 0 (MQ below (mm_Q G mm_NT (some (.int rv)) f' (GG f')) args s 0 0 (mm_A G)) (F0 m 49 ls []) := by
  obtain ⟨hx, hb, hml, hr, hown, hts, hlocks⟩ := id C0
  rw [S_X0_takeSnow_49] at h
  refine lv_aload_n hx hb dX0_takeSnow_49 rfl (lv_at hl 0 rfl) ?_
  refine lv_iconst (v := 0) hx hb dX0_takeSnow_50 (by decide) ?_
  obtain ⟨f6, ef6, h⟩ := mm_bind h
  refine mm_callV (v := none) (f1 := f6) (d0 := 0) (rest := []) [.int 0] C0 rfl hR 1 i0 (T_X0_become G hi0 ef6) ws_X0_become lk_2 hd_X0_become ⟨by decide, by decide⟩ (mm_vld 1 (by decide) i0 hi0) rfl rfl rfl hl.1 rfl (Nat.le_of_ble_eq_true rfl) dX0_takeSnow_51 (fun H locs hR => ?_)
  refine W.eq (g2 := F0 m 54 ls ([])) rfl ?_
  refine lv_iconst (v := 1) hx hb dX0_takeSnow_54 (by decide) ?_
  obtain ⟨rfl, rfl⟩ := mm_pr h
  exact mm_zret C0 rfl hR dX0_takeSnow_55
def S_X0_takeSnow (f : F3) (i0 : Nat) (x1 : Int32) : Option (Int32 × F3) := if (f 1 i0 0) = 4 then (some (0, f)) else (mm_let (up f 1 i0 2 (if (f 1 i0 2) + x1 < 200 then (f 1 i0 2) + x1 else 200)) fun f2 => if (f2 1 i0 2) ≤ 0 then (some (0, f2)) else (if (f2 1 i0 0) = 1 then (S_X0_takeSnow_49 f2 i0) else (if (f2 1 i0 0) = 2 then (S_X0_takeSnow_49 f2 i0) else (some (0, f2)))))
set_option maxHeartbeats 4000000 in
set_option maxRecDepth 100000 in
theorem T_X0_takeSnow (G : mmG) {f f' : F3} {rv : Int32} {i0 : Nat} {x1 : Int32} (hi0 : i0 < mm_cnt 1) (h : S_X0_takeSnow f i0 x1 = some (rv, f')) : mmM G yX0_takeSnow cX0_takeSnow 2 (some .boolean) 1 [.ref (ra G 1 i0), .int x1] f (some (.int rv)) f' := by
  refine mm_start (by decide +kernel) (Nat.le_of_ble_eq_true rfl) ?_
  intro p e s m args below meth c ls C0 hR hl
  obtain ⟨hx, hb, hml, hr, hown, hts, hlocks⟩ := id C0
  have hl : lv_has ls 2 [(0, .ref (ra G 1 i0)), (1, .int x1)] := hl
  rw [S_X0_takeSnow] at h
  refine lv_aload_n hx hb dX0_takeSnow_0 rfl (lv_at hl 0 rfl) ?_
  refine mm_get hx hb hts hown hR 1 i0 0 (mm_vld 1 (by decide) i0 hi0) (v := .int (f 1 i0 0)) rfl rfl iX0 (by decide) lk_0 rfl dX0_takeSnow_1 ?_
  refine lv_iconst (v := 4) hx hb dX0_takeSnow_4 (by decide) ?_
  refine lv_icmp_ne (tgt := 10) hx hb dX0_takeSnow_5 (by decide) (fun c1 => ?_) (fun c1 => ?_)
  · rw [if_neg c1] at h
    refine lv_aload_n hx hb dX0_takeSnow_10 rfl (lv_at hl 0 rfl) ?_
    refine lv_sipush (v := 200) hx hb dX0_takeSnow_11 (by decide) ?_
    refine lv_aload_n hx hb dX0_takeSnow_14 rfl (lv_at hl 0 rfl) ?_
    refine mm_get hx hb hts hown hR 1 i0 2 (mm_vld 1 (by decide) i0 hi0) (v := .int (f 1 i0 2)) rfl rfl iX0 (by decide) lk_6 rfl dX0_takeSnow_15 ?_
    refine lv_iload_n hx hb dX0_takeSnow_18 rfl (lv_at hl 1 rfl) ?_
    refine lv_iadd hx hb dX0_takeSnow_19 ?_
    refine va_mmin hx hb (hml.trans hl.1.symm) hown (hts _ lk_16) (hts _ lk_17) (hts _ lk_13) (hts _ lk_18) (by decide) (Nat.le_of_ble_eq_true rfl) (by decide) (by decide) dX0_takeSnow_20 ?_
    obtain ⟨f2, ef2, h⟩ := mm_lt h
    refine mm_put hx hb hts hown hR 1 i0 2 (by decide) (mm_vld 1 (by decide) i0 hi0) (x := (if (f 1 i0 2) + x1 < 200 then (f 1 i0 2) + x1 else 200)) rfl rfl iX0 tyX0 tyX0_ok nmX0 (by decide) lk_6 rfl rfl rfl (Nat.le_of_ble_eq_true rfl) rfl dX0_takeSnow_23 (fun H locs hR => ?_)
    rw [← ef2] at hR
    refine lv_aload_n hx hb dX0_takeSnow_26 rfl (lv_at hl 0 rfl) ?_
    refine mm_get hx hb hts hown hR 1 i0 2 (mm_vld 1 (by decide) i0 hi0) (v := .int (f2 1 i0 2)) rfl rfl iX0 (by decide) lk_6 rfl dX0_takeSnow_27 ?_
    refine lv_if_le (tgt := 56) hx hb dX0_takeSnow_30 (by decide) (fun c3 => ?_) (fun c3 => ?_)
    · rw [if_pos c3] at h
      refine lv_iconst (v := 0) hx hb dX0_takeSnow_56 (by decide) ?_
      obtain ⟨rfl, rfl⟩ := mm_pr h
      exact mm_zret C0 rfl hR dX0_takeSnow_57
    · rw [if_neg c3] at h
      refine lv_aload_n hx hb dX0_takeSnow_33 rfl (lv_at hl 0 rfl) ?_
      refine mm_get hx hb hts hown hR 1 i0 0 (mm_vld 1 (by decide) i0 hi0) (v := .int (f2 1 i0 0)) rfl rfl iX0 (by decide) lk_0 rfl dX0_takeSnow_34 ?_
      refine lv_iconst (v := 1) hx hb dX0_takeSnow_37 (by decide) ?_
      refine lv_icmp_eq (tgt := 49) hx hb dX0_takeSnow_38 (by decide) (fun c4 => ?_) (fun c4 => ?_)
      · rw [if_pos c4] at h
        exact L_X0_takeSnow_49 C0 hi0 h _ _ _ hR (lv_sub hl [0] rfl)
      · rw [if_neg c4] at h
        refine lv_aload_n hx hb dX0_takeSnow_41 rfl (lv_at hl 0 rfl) ?_
        refine mm_get hx hb hts hown hR 1 i0 0 (mm_vld 1 (by decide) i0 hi0) (v := .int (f2 1 i0 0)) rfl rfl iX0 (by decide) lk_0 rfl dX0_takeSnow_42 ?_
        refine lv_iconst (v := 2) hx hb dX0_takeSnow_45 (by decide) ?_
        refine lv_icmp_ne (tgt := 56) hx hb dX0_takeSnow_46 (by decide) (fun c5 => ?_) (fun c5 => ?_)
        · rw [if_neg c5] at h
          refine lv_iconst (v := 0) hx hb dX0_takeSnow_56 (by decide) ?_
          obtain ⟨rfl, rfl⟩ := mm_pr h
          exact mm_zret C0 rfl hR dX0_takeSnow_57
        · rw [if_pos c5] at h
          exact L_X0_takeSnow_49 C0 hi0 h _ _ _ hR (lv_sub hl [0] rfl)
  · rw [if_pos c1] at h
    refine lv_iconst (v := 0) hx hb dX0_takeSnow_8 (by decide) ?_
    obtain ⟨rfl, rfl⟩ := mm_pr h
    exact mm_zret C0 rfl hR dX0_takeSnow_9
def S_X0_wearDown (f : F3) (i0 : Nat) (x1 : Int32) : Option F3 := mm_let (up f 1 i0 5 ((f 1 i0 5) + x1)) fun f1 => if (f1 1 i0 0) = 4 then (some f1) else (if (f1 1 i0 5) < (f1 1 i0 1) then (some f1) else (Option.bind (S_X0_crack f1 i0) fun f4 => some f4))
set_option maxHeartbeats 4000000 in
set_option maxRecDepth 100000 in
theorem T_X0_wearDown (G : mmG) {f f' : F3} {i0 : Nat} {x1 : Int32} (hi0 : i0 < mm_cnt 1) (h : S_X0_wearDown f i0 x1 = some f') : mmM G yX0_wearDown cX0_wearDown 2 none 2 [.ref (ra G 1 i0), .int x1] f none f' := by
  refine mm_start (by decide +kernel) (Nat.le_of_ble_eq_true rfl) ?_
  intro p e s m args below meth c ls C0 hR hl
  obtain ⟨hx, hb, hml, hr, hown, hts, hlocks⟩ := id C0
  have hl : lv_has ls 2 [(0, .ref (ra G 1 i0)), (1, .int x1)] := hl
  rw [S_X0_wearDown] at h
  refine lv_aload_n hx hb dX0_wearDown_0 rfl (lv_at hl 0 rfl) ?_
  refine lv_dup hx hb dX0_wearDown_1 rfl ?_
  refine mm_get hx hb hts hown hR 1 i0 5 (mm_vld 1 (by decide) i0 hi0) (v := .int (f 1 i0 5)) rfl rfl iX0 (by decide) lk_3 rfl dX0_wearDown_2 ?_
  refine lv_iload_n hx hb dX0_wearDown_5 rfl (lv_at hl 1 rfl) ?_
  refine lv_iadd hx hb dX0_wearDown_6 ?_
  obtain ⟨f1, ef1, h⟩ := mm_lt h
  refine mm_put hx hb hts hown hR 1 i0 5 (by decide) (mm_vld 1 (by decide) i0 hi0) (x := (f 1 i0 5) + x1) rfl rfl iX0 tyX0 tyX0_ok nmX0 (by decide) lk_3 rfl rfl rfl (Nat.le_of_ble_eq_true rfl) rfl dX0_wearDown_7 (fun H locs hR => ?_)
  rw [← ef1] at hR
  refine lv_aload_n hx hb dX0_wearDown_10 rfl (lv_at hl 0 rfl) ?_
  refine mm_get hx hb hts hown hR 1 i0 0 (mm_vld 1 (by decide) i0 hi0) (v := .int (f1 1 i0 0)) rfl rfl iX0 (by decide) lk_0 rfl dX0_wearDown_11 ?_
  refine lv_iconst (v := 4) hx hb dX0_wearDown_14 (by decide) ?_
  refine lv_icmp_eq (tgt := 33) hx hb dX0_wearDown_15 (by decide) (fun c2 => ?_) (fun c2 => ?_)
  · rw [if_pos c2] at h
    obtain rfl := mm_p1 h
    exact mm_vret C0 hR dX0_wearDown_33
  · rw [if_neg c2] at h
    refine lv_aload_n hx hb dX0_wearDown_18 rfl (lv_at hl 0 rfl) ?_
    refine mm_get hx hb hts hown hR 1 i0 5 (mm_vld 1 (by decide) i0 hi0) (v := .int (f1 1 i0 5)) rfl rfl iX0 (by decide) lk_3 rfl dX0_wearDown_19 ?_
    refine lv_aload_n hx hb dX0_wearDown_22 rfl (lv_at hl 0 rfl) ?_
    refine mm_get hx hb hts hown hR 1 i0 1 (mm_vld 1 (by decide) i0 hi0) (v := .int (f1 1 i0 1)) rfl rfl iX0 (by decide) lk_5 rfl dX0_wearDown_23 ?_
    refine lv_icmp_lt (tgt := 33) hx hb dX0_wearDown_26 (by decide) (fun c3 => ?_) (fun c3 => ?_)
    · rw [if_pos c3] at h
      obtain rfl := mm_p1 h
      exact mm_vret C0 hR dX0_wearDown_33
    · rw [if_neg c3] at h
      refine lv_aload_n hx hb dX0_wearDown_29 rfl (lv_at hl 0 rfl) ?_
      obtain ⟨f4, ef4, h⟩ := mm_bind h
      refine mm_callV (v := none) (f1 := f4) (d0 := 1) (rest := []) [] C0 rfl hR 1 i0 (T_X0_crack G hi0 ef4) ws_X0_crack lk_20 hd_X0_crack ⟨by decide, by decide⟩ (mm_vld 1 (by decide) i0 hi0) rfl rfl rfl hl.1 rfl (Nat.le_of_ble_eq_true rfl) dX0_wearDown_30 (fun H locs hR => ?_)
      refine W.eq (g2 := F0 m 33 ls ([])) rfl ?_
      obtain rfl := mm_p1 h
      exact mm_vret C0 hR dX0_wearDown_33
def S_X1_end (f : F3) (i0 : Nat) (x1 : Int32) (x2 : Int32) : Option F3 := mm_let (up f 2 i0 3 x1) fun f1 => mm_let (up f1 2 i0 4 (-1)) fun f2 => mm_let (up f2 2 i0 5 (-1)) fun f3 => mm_let (up f3 2 i0 6 x2) fun f4 => some f4
set_option maxHeartbeats 4000000 in
set_option maxRecDepth 100000 in
theorem T_X1_end (G : mmG) {f f' : F3} {i0 : Nat} {x1 : Int32} {x2 : Int32} (hi0 : i0 < mm_cnt 2) (h : S_X1_end f i0 x1 x2 = some f') : mmM G yX1_end cX1_end 3 none 0 [.ref (ra G 2 i0), .int x1, .int x2] f none f' := by
  refine mm_start (by decide +kernel) (Nat.le_of_ble_eq_true rfl) ?_
  intro p e s m args below meth c ls C0 hR hl
  obtain ⟨hx, hb, hml, hr, hown, hts, hlocks⟩ := id C0
  have hl : lv_has ls 3 [(0, .ref (ra G 2 i0)), (1, .int x1), (2, .int x2)] := hl
  rw [S_X1_end] at h
  refine lv_aload_n hx hb dX1_end_0 rfl (lv_at hl 0 rfl) ?_
  refine lv_iload_n hx hb dX1_end_1 rfl (lv_at hl 1 rfl) ?_
  obtain ⟨f1, ef1, h⟩ := mm_lt h
  refine mm_put hx hb hts hown hR 2 i0 3 (by decide) (mm_vld 2 (by decide) i0 hi0) (x := x1) rfl rfl iX1 tyX1 tyX1_ok nmX1 (by decide) lk_21 rfl rfl rfl (Nat.le_of_ble_eq_true rfl) rfl dX1_end_2 (fun H locs hR => ?_)
  rw [← ef1] at hR
  refine lv_aload_n hx hb dX1_end_5 rfl (lv_at hl 0 rfl) ?_
  refine lv_iconst (v := (-1)) hx hb dX1_end_6 (by decide) ?_
  obtain ⟨f2, ef2, h⟩ := mm_lt h
  refine mm_put hx hb hts hown hR 2 i0 4 (by decide) (mm_vld 2 (by decide) i0 hi0) (x := (-1)) rfl rfl iX1 tyX1 tyX1_ok nmX1 (by decide) lk_22 rfl rfl rfl (Nat.le_of_ble_eq_true rfl) rfl dX1_end_7 (fun H locs hR => ?_)
  rw [← ef2] at hR
  refine lv_aload_n hx hb dX1_end_10 rfl (lv_at hl 0 rfl) ?_
  refine lv_iconst (v := (-1)) hx hb dX1_end_11 (by decide) ?_
  obtain ⟨f3, ef3, h⟩ := mm_lt h
  refine mm_put hx hb hts hown hR 2 i0 5 (by decide) (mm_vld 2 (by decide) i0 hi0) (x := (-1)) rfl rfl iX1 tyX1 tyX1_ok nmX1 (by decide) lk_23 rfl rfl rfl (Nat.le_of_ble_eq_true rfl) rfl dX1_end_12 (fun H locs hR => ?_)
  rw [← ef3] at hR
  refine lv_aload_n hx hb dX1_end_15 rfl (lv_at hl 0 rfl) ?_
  refine lv_iload_n hx hb dX1_end_16 rfl (lv_at hl 2 rfl) ?_
  obtain ⟨f4, ef4, h⟩ := mm_lt h
  refine mm_put hx hb hts hown hR 2 i0 6 (by decide) (mm_vld 2 (by decide) i0 hi0) (x := x2) rfl rfl iX1 tyX1 tyX1_ok nmX1 (by decide) lk_24 rfl rfl rfl (Nat.le_of_ble_eq_true rfl) rfl dX1_end_17 (fun H locs hR => ?_)
  rw [← ef4] at hR
  obtain rfl := mm_p1 h
  exact mm_vret C0 hR dX1_end_20
def S_X1_enter (f : F3) (i0 : Nat) (x1 : Int32) : Option F3 := mm_let (up f 2 i0 3 1) fun f1 => mm_let (up f1 2 i0 4 x1) fun f2 => mm_let (up f2 2 i0 5 0) fun f3 => some f3
set_option maxHeartbeats 4000000 in
set_option maxRecDepth 100000 in
theorem T_X1_enter (G : mmG) {f f' : F3} {i0 : Nat} {x1 : Int32} (hi0 : i0 < mm_cnt 2) (h : S_X1_enter f i0 x1 = some f') : mmM G yX1_enter cX1_enter 2 none 0 [.ref (ra G 2 i0), .int x1] f none f' := by
  refine mm_start (by decide +kernel) (Nat.le_of_ble_eq_true rfl) ?_
  intro p e s m args below meth c ls C0 hR hl
  obtain ⟨hx, hb, hml, hr, hown, hts, hlocks⟩ := id C0
  have hl : lv_has ls 2 [(0, .ref (ra G 2 i0)), (1, .int x1)] := hl
  rw [S_X1_enter] at h
  refine lv_aload_n hx hb dX1_enter_0 rfl (lv_at hl 0 rfl) ?_
  refine lv_iconst (v := 1) hx hb dX1_enter_1 (by decide) ?_
  obtain ⟨f1, ef1, h⟩ := mm_lt h
  refine mm_put hx hb hts hown hR 2 i0 3 (by decide) (mm_vld 2 (by decide) i0 hi0) (x := 1) rfl rfl iX1 tyX1 tyX1_ok nmX1 (by decide) lk_21 rfl rfl rfl (Nat.le_of_ble_eq_true rfl) rfl dX1_enter_2 (fun H locs hR => ?_)
  rw [← ef1] at hR
  refine lv_aload_n hx hb dX1_enter_5 rfl (lv_at hl 0 rfl) ?_
  refine lv_iload_n hx hb dX1_enter_6 rfl (lv_at hl 1 rfl) ?_
  obtain ⟨f2, ef2, h⟩ := mm_lt h
  refine mm_put hx hb hts hown hR 2 i0 4 (by decide) (mm_vld 2 (by decide) i0 hi0) (x := x1) rfl rfl iX1 tyX1 tyX1_ok nmX1 (by decide) lk_22 rfl rfl rfl (Nat.le_of_ble_eq_true rfl) rfl dX1_enter_7 (fun H locs hR => ?_)
  rw [← ef2] at hR
  refine lv_aload_n hx hb dX1_enter_10 rfl (lv_at hl 0 rfl) ?_
  refine lv_iconst (v := 0) hx hb dX1_enter_11 (by decide) ?_
  obtain ⟨f3, ef3, h⟩ := mm_lt h
  refine mm_put hx hb hts hown hR 2 i0 5 (by decide) (mm_vld 2 (by decide) i0 hi0) (x := 0) rfl rfl iX1 tyX1 tyX1_ok nmX1 (by decide) lk_23 rfl rfl rfl (Nat.le_of_ble_eq_true rfl) rfl dX1_enter_12 (fun H locs hR => ?_)
  rw [← ef3] at hR
  obtain rfl := mm_p1 h
  exact mm_vret C0 hR dX1_enter_15
def S_X2_applies_175 (k23 : F3 → Nat → Int32 → Int32 → Option (Int32 × F3)) (f : F3) (s0 : Int32) (s1 : Int32) (i0 : Nat) (x4 : Int32) : Option (Int32 × F3) := k23 f i0 (s0 + s1) (x4 + 1)
set_option maxHeartbeats 4000000 in
set_option maxRecDepth 100000 in
theorem L_X2_applies_175 {G : mmG} {p : Program} {e : Env} {s : State} {m : MethodId} {args : Array Value} {below : List Frame} {meth : Method} {c : Code} {f' : F3} {rv : Int32} (C0 : mmC yX2_applies cX2_applies 8 (some .boolean) p s m args meth c) {k23 : F3 → Nat → Int32 → Int32 → Option (Int32 × F3)} (hk23 : ∀ (f : F3) (i0 : Nat) (x3 : Int32) (x4 : Int32), i0 < mm_cnt 3 → k23 f i0 x3 x4 = some (rv, f') → ∀ (H : Heap) (locs : List Loc) (ls : Array Slot), mm_R G mm_NT f (GG f) s H locs → lv_has ls 8 [(0, .ref (ra G 3 i0)), (2, .ref (ra G 13 0)), (3, .int x3), (4, .int x4)] → W p G.1 e (mm_rm 0) s m args below meth c H locs 0 0 (MQ below (mm_Q G mm_NT (some (.int rv)) f' (GG f')) args s 0 0 (mm_A G)) (F0 m 23 ls [])) {f : F3} {s0 : Int32} {s1 : Int32} {i0 : Nat} {x4 : Int32} (hi0 : i0 < mm_cnt 3) (h : S_X2_applies_175 k23 f s0 s1 i0 x4 = some (rv, f')) (H : Heap) (locs : List Loc) (ls : Array Slot) (hR : mm_R G mm_NT f (GG f) s H locs) (hl : lv_has ls 8 [(0, .ref (ra G 3 i0)), (2, .ref (ra G 13 0)), (4, .int x4)]) : W p G.1 e (mm_rm 0) s m args below meth c H locs 0 0 (MQ below (mm_Q G mm_NT (some (.int rv)) f' (GG f')) args s 0 0 (mm_A G)) (F0 m 175 ls [.int s1, .int s0]) := by
  obtain ⟨hx, hb, hml, hr, hown, hts, hlocks⟩ := id C0
  rw [S_X2_applies_175] at h
  refine lv_iadd hx hb dX2_applies_175 ?_
  refine lv_istore_n (lv' := [(3, .int (s0 + s1)), (0, .ref (ra G 3 i0)), (2, .ref (ra G 13 0)), (4, .int x4)]) hx hb dX2_applies_176 rfl hl (by decide) rfl (fun ls hl => ?_)
  refine lv_iinc (v := x4 + 1) (lv' := [(4, .int (x4 + 1)), (3, .int (s0 + s1)), (0, .ref (ra G 3 i0)), (2, .ref (ra G 13 0))]) hx hb dX2_applies_177 hl (k := 3) rfl rfl (by decide) rfl (fun ls hl => ?_)
  refine lv_goto (tgt := 23) hx hb dX2_applies_180 (by decide) ?_
  exact hk23 _ i0 (s0 + s1) (x4 + 1) hi0 h _ _ _ hR (lv_sub hl [2, 3, 1, 0] rfl)
def S_X2_applies_162 (k23 : F3 → Nat → Int32 → Int32 → Option (Int32 × F3)) (f : F3) (s0 : Int32) (i0 : Nat) (x3 : Int32) (x4 : Int32) : Option (Int32 × F3) := if s0 = 0 then (S_X2_applies_175 k23 f x3 0 i0 x4) else (S_X2_applies_175 k23 f x3 1 i0 x4)
set_option maxHeartbeats 4000000 in
set_option maxRecDepth 100000 in
theorem L_X2_applies_162 {G : mmG} {p : Program} {e : Env} {s : State} {m : MethodId} {args : Array Value} {below : List Frame} {meth : Method} {c : Code} {f' : F3} {rv : Int32} (C0 : mmC yX2_applies cX2_applies 8 (some .boolean) p s m args meth c) {k23 : F3 → Nat → Int32 → Int32 → Option (Int32 × F3)} (hk23 : ∀ (f : F3) (i0 : Nat) (x3 : Int32) (x4 : Int32), i0 < mm_cnt 3 → k23 f i0 x3 x4 = some (rv, f') → ∀ (H : Heap) (locs : List Loc) (ls : Array Slot), mm_R G mm_NT f (GG f) s H locs → lv_has ls 8 [(0, .ref (ra G 3 i0)), (2, .ref (ra G 13 0)), (3, .int x3), (4, .int x4)] → W p G.1 e (mm_rm 0) s m args below meth c H locs 0 0 (MQ below (mm_Q G mm_NT (some (.int rv)) f' (GG f')) args s 0 0 (mm_A G)) (F0 m 23 ls [])) {f : F3} {s0 : Int32} {i0 : Nat} {x3 : Int32} {x4 : Int32} (hi0 : i0 < mm_cnt 3) (h : S_X2_applies_162 k23 f s0 i0 x3 x4 = some (rv, f')) (H : Heap) (locs : List Loc) (ls : Array Slot) (hR : mm_R G mm_NT f (GG f) s H locs) (hl : lv_has ls 8 [(0, .ref (ra G 3 i0)), (2, .ref (ra G 13 0)), (3, .int x3), (4, .int x4)]) : W p G.1 e (mm_rm 0) s m args below meth c H locs 0 0 (MQ below (mm_Q G mm_NT (some (.int rv)) f' (GG f')) args s 0 0 (mm_A G)) (F0 m 162 ls [.int s0]) := by
  obtain ⟨hx, hb, hml, hr, hown, hts, hlocks⟩ := id C0
  rw [S_X2_applies_162] at h
  refine lv_istore (lv' := [(7, .int s0), (0, .ref (ra G 3 i0)), (2, .ref (ra G 13 0)), (3, .int x3), (4, .int x4)]) hx hb dX2_applies_162 hl (by decide) rfl (fun ls hl => ?_)
  refine lv_iload_n hx hb dX2_applies_164 rfl (lv_at hl 3 rfl) ?_
  refine lv_iload hx hb dX2_applies_165 (lv_at hl 0 rfl) ?_
  refine lv_if_eq (tgt := 174) hx hb dX2_applies_167 (by decide) (fun c19 => ?_) (fun c19 => ?_)
  · rw [if_pos c19] at h
    refine lv_iconst (v := 0) hx hb dX2_applies_174 (by decide) ?_
    exact L_X2_applies_175 C0 hk23 hi0 h _ _ _ hR (lv_sub hl [1, 2, 4] rfl)
  · rw [if_neg c19] at h
    refine lv_iconst (v := 1) hx hb dX2_applies_170 (by decide) ?_
    refine lv_goto (tgt := 175) hx hb dX2_applies_171 (by decide) ?_
    exact L_X2_applies_175 C0 hk23 hi0 h _ _ _ hR (lv_sub hl [1, 2, 4] rfl)
def S_X2_applies_79 (k23 : F3 → Nat → Int32 → Int32 → Option (Int32 × F3)) (f : F3) (s0 : Int32) (i0 : Nat) (x3 : Int32) (x4 : Int32) : Option (Int32 × F3) := if okI x4 3 then (if (f 17 i0 x4.toNatClampNeg) = 61 then (if s0 = (f 18 i0 x4.toNatClampNeg) then (S_X2_applies_162 k23 f 1 i0 x3 x4) else (S_X2_applies_162 k23 f 0 i0 x3 x4)) else (if (f 17 i0 x4.toNatClampNeg) = 60 then (if (f 18 i0 x4.toNatClampNeg) ≤ s0 then (S_X2_applies_162 k23 f 0 i0 x3 x4) else (S_X2_applies_162 k23 f 1 i0 x3 x4)) else (if s0 ≤ (f 18 i0 x4.toNatClampNeg) then (S_X2_applies_162 k23 f 0 i0 x3 x4) else (S_X2_applies_162 k23 f 1 i0 x3 x4)))) else none
set_option maxHeartbeats 4000000 in
set_option maxRecDepth 100000 in
theorem L_X2_applies_79 {G : mmG} {p : Program} {e : Env} {s : State} {m : MethodId} {args : Array Value} {below : List Frame} {meth : Method} {c : Code} {f' : F3} {rv : Int32} (C0 : mmC yX2_applies cX2_applies 8 (some .boolean) p s m args meth c) {k23 : F3 → Nat → Int32 → Int32 → Option (Int32 × F3)} (hk23 : ∀ (f : F3) (i0 : Nat) (x3 : Int32) (x4 : Int32), i0 < mm_cnt 3 → k23 f i0 x3 x4 = some (rv, f') → ∀ (H : Heap) (locs : List Loc) (ls : Array Slot), mm_R G mm_NT f (GG f) s H locs → lv_has ls 8 [(0, .ref (ra G 3 i0)), (2, .ref (ra G 13 0)), (3, .int x3), (4, .int x4)] → W p G.1 e (mm_rm 0) s m args below meth c H locs 0 0 (MQ below (mm_Q G mm_NT (some (.int rv)) f' (GG f')) args s 0 0 (mm_A G)) (F0 m 23 ls [])) {f : F3} {s0 : Int32} {i0 : Nat} {x3 : Int32} {x4 : Int32} (hi0 : i0 < mm_cnt 3) (h : S_X2_applies_79 k23 f s0 i0 x3 x4 = some (rv, f')) (H : Heap) (locs : List Loc) (ls : Array Slot) (hR : mm_R G mm_NT f (GG f) s H locs) (hl : lv_has ls 8 [(0, .ref (ra G 3 i0)), (2, .ref (ra G 13 0)), (3, .int x3), (4, .int x4)]) : W p G.1 e (mm_rm 0) s m args below meth c H locs 0 0 (MQ below (mm_Q G mm_NT (some (.int rv)) f' (GG f')) args s 0 0 (mm_A G)) (F0 m 79 ls [.int s0]) := by
  obtain ⟨hx, hb, hml, hr, hown, hts, hlocks⟩ := id C0
  rw [S_X2_applies_79] at h
  refine lv_istore (lv' := [(6, .int s0), (0, .ref (ra G 3 i0)), (2, .ref (ra G 13 0)), (3, .int x3), (4, .int x4)]) hx hb dX2_applies_79 hl (by decide) rfl (fun ls hl => ?_)
  refine lv_aload_n hx hb dX2_applies_81 rfl (lv_at hl 1 rfl) ?_
  refine mm_get hx hb hts hown hR 3 i0 7 (mm_vld 3 (by decide) i0 hi0) (v := .ref (ra G 17 i0)) rfl rfl iX2 (by decide) lk_30 rfl dX2_applies_82 ?_
  refine lv_iload hx hb dX2_applies_85 (lv_at hl 4 rfl) ?_
  obtain ⟨z13, h⟩ := mm_if h
  refine mm_ild hx hb hR 17 i0 (mm_vld 17 (by decide) i0 hi0) (L := 3) rfl (okI_in z13) dX2_applies_87 ?_
  refine lv_bipush (v := 61) hx hb dX2_applies_88 (by decide) ?_
  refine lv_icmp_ne (tgt := 113) hx hb dX2_applies_90 (by decide) (fun c14 => ?_) (fun c14 => ?_)
  · rw [if_neg c14] at h
    refine lv_aload_n hx hb dX2_applies_113 rfl (lv_at hl 1 rfl) ?_
    refine mm_get hx hb hts hown hR 3 i0 7 (mm_vld 3 (by decide) i0 hi0) (v := .ref (ra G 17 i0)) rfl rfl iX2 (by decide) lk_30 rfl dX2_applies_114 ?_
    refine lv_iload hx hb dX2_applies_117 (lv_at hl 4 rfl) ?_
    refine mm_ild hx hb hR 17 i0 (mm_vld 17 (by decide) i0 hi0) (L := 3) rfl (okI_in z13) dX2_applies_119 ?_
    refine lv_bipush (v := 60) hx hb dX2_applies_120 (by decide) ?_
    refine lv_icmp_ne (tgt := 145) hx hb dX2_applies_122 (by decide) (fun c15 => ?_) (fun c15 => ?_)
    · rw [if_neg c15] at h
      refine lv_iload hx hb dX2_applies_145 (lv_at hl 0 rfl) ?_
      refine lv_aload_n hx hb dX2_applies_147 rfl (lv_at hl 1 rfl) ?_
      refine mm_get hx hb hts hown hR 3 i0 8 (mm_vld 3 (by decide) i0 hi0) (v := .ref (ra G 18 i0)) rfl rfl iX2 (by decide) lk_31 rfl dX2_applies_148 ?_
      refine lv_iload hx hb dX2_applies_151 (lv_at hl 4 rfl) ?_
      refine mm_ild hx hb hR 18 i0 (mm_vld 18 (by decide) i0 hi0) (L := 3) rfl (okI_in z13) dX2_applies_153 ?_
      refine lv_icmp_le (tgt := 161) hx hb dX2_applies_154 (by decide) (fun c16 => ?_) (fun c16 => ?_)
      · rw [if_pos c16] at h
        refine lv_iconst (v := 0) hx hb dX2_applies_161 (by decide) ?_
        exact L_X2_applies_162 C0 hk23 hi0 h _ _ _ hR (lv_sub hl [1, 2, 3, 4] rfl)
      · rw [if_neg c16] at h
        refine lv_iconst (v := 1) hx hb dX2_applies_157 (by decide) ?_
        refine lv_goto (tgt := 162) hx hb dX2_applies_158 (by decide) ?_
        exact L_X2_applies_162 C0 hk23 hi0 h _ _ _ hR (lv_sub hl [1, 2, 3, 4] rfl)
    · rw [if_pos c15] at h
      refine lv_iload hx hb dX2_applies_125 (lv_at hl 0 rfl) ?_
      refine lv_aload_n hx hb dX2_applies_127 rfl (lv_at hl 1 rfl) ?_
      refine mm_get hx hb hts hown hR 3 i0 8 (mm_vld 3 (by decide) i0 hi0) (v := .ref (ra G 18 i0)) rfl rfl iX2 (by decide) lk_31 rfl dX2_applies_128 ?_
      refine lv_iload hx hb dX2_applies_131 (lv_at hl 4 rfl) ?_
      refine mm_ild hx hb hR 18 i0 (mm_vld 18 (by decide) i0 hi0) (L := 3) rfl (okI_in z13) dX2_applies_133 ?_
      refine lv_icmp_ge (tgt := 141) hx hb dX2_applies_134 (by decide) (fun c17 => ?_) (fun c17 => ?_)
      · rw [if_pos c17] at h
        refine lv_iconst (v := 0) hx hb dX2_applies_141 (by decide) ?_
        refine lv_goto (tgt := 162) hx hb dX2_applies_142 (by decide) ?_
        exact L_X2_applies_162 C0 hk23 hi0 h _ _ _ hR (lv_sub hl [1, 2, 3, 4] rfl)
      · rw [if_neg c17] at h
        refine lv_iconst (v := 1) hx hb dX2_applies_137 (by decide) ?_
        refine lv_goto (tgt := 162) hx hb dX2_applies_138 (by decide) ?_
        exact L_X2_applies_162 C0 hk23 hi0 h _ _ _ hR (lv_sub hl [1, 2, 3, 4] rfl)
  · rw [if_pos c14] at h
    refine lv_iload hx hb dX2_applies_93 (lv_at hl 0 rfl) ?_
    refine lv_aload_n hx hb dX2_applies_95 rfl (lv_at hl 1 rfl) ?_
    refine mm_get hx hb hts hown hR 3 i0 8 (mm_vld 3 (by decide) i0 hi0) (v := .ref (ra G 18 i0)) rfl rfl iX2 (by decide) lk_31 rfl dX2_applies_96 ?_
    refine lv_iload hx hb dX2_applies_99 (lv_at hl 4 rfl) ?_
    refine mm_ild hx hb hR 18 i0 (mm_vld 18 (by decide) i0 hi0) (L := 3) rfl (okI_in z13) dX2_applies_101 ?_
    refine lv_icmp_ne (tgt := 109) hx hb dX2_applies_102 (by decide) (fun c18 => ?_) (fun c18 => ?_)
    · rw [if_neg c18] at h
      refine lv_iconst (v := 0) hx hb dX2_applies_109 (by decide) ?_
      refine lv_goto (tgt := 162) hx hb dX2_applies_110 (by decide) ?_
      exact L_X2_applies_162 C0 hk23 hi0 h _ _ _ hR (lv_sub hl [1, 2, 3, 4] rfl)
    · rw [if_pos c18] at h
      refine lv_iconst (v := 1) hx hb dX2_applies_105 (by decide) ?_
      refine lv_goto (tgt := 162) hx hb dX2_applies_106 (by decide) ?_
      exact L_X2_applies_162 C0 hk23 hi0 h _ _ _ hR (lv_sub hl [1, 2, 3, 4] rfl)
def S_X2_applies_59 (k23 : F3 → Nat → Int32 → Int32 → Option (Int32 × F3)) (f : F3) (s0 : Int32) (i0 : Nat) (x3 : Int32) (x4 : Int32) : Option (Int32 × F3) := if s0 = 0 then (S_X2_applies_79 k23 f 0 i0 x3 x4) else (if okI x4 3 then (if okI (f 16 i0 x4.toNatClampNeg) 5 then (S_X2_applies_79 k23 f (f 13 0 (f 16 i0 x4.toNatClampNeg).toNatClampNeg) i0 x3 x4) else none) else none)
set_option maxHeartbeats 4000000 in
set_option maxRecDepth 100000 in
theorem L_X2_applies_59 {G : mmG} {p : Program} {e : Env} {s : State} {m : MethodId} {args : Array Value} {below : List Frame} {meth : Method} {c : Code} {f' : F3} {rv : Int32} (C0 : mmC yX2_applies cX2_applies 8 (some .boolean) p s m args meth c) {k23 : F3 → Nat → Int32 → Int32 → Option (Int32 × F3)} (hk23 : ∀ (f : F3) (i0 : Nat) (x3 : Int32) (x4 : Int32), i0 < mm_cnt 3 → k23 f i0 x3 x4 = some (rv, f') → ∀ (H : Heap) (locs : List Loc) (ls : Array Slot), mm_R G mm_NT f (GG f) s H locs → lv_has ls 8 [(0, .ref (ra G 3 i0)), (2, .ref (ra G 13 0)), (3, .int x3), (4, .int x4)] → W p G.1 e (mm_rm 0) s m args below meth c H locs 0 0 (MQ below (mm_Q G mm_NT (some (.int rv)) f' (GG f')) args s 0 0 (mm_A G)) (F0 m 23 ls [])) {f : F3} {s0 : Int32} {i0 : Nat} {x3 : Int32} {x4 : Int32} (hi0 : i0 < mm_cnt 3) (h : S_X2_applies_59 k23 f s0 i0 x3 x4 = some (rv, f')) (H : Heap) (locs : List Loc) (ls : Array Slot) (hR : mm_R G mm_NT f (GG f) s H locs) (hl : lv_has ls 8 [(0, .ref (ra G 3 i0)), (2, .ref (ra G 13 0)), (3, .int x3), (4, .int x4)]) : W p G.1 e (mm_rm 0) s m args below meth c H locs 0 0 (MQ below (mm_Q G mm_NT (some (.int rv)) f' (GG f')) args s 0 0 (mm_A G)) (F0 m 59 ls [.int s0]) := by
  obtain ⟨hx, hb, hml, hr, hown, hts, hlocks⟩ := id C0
  rw [S_X2_applies_59] at h
  refine lv_istore (lv' := [(5, .int s0), (0, .ref (ra G 3 i0)), (2, .ref (ra G 13 0)), (3, .int x3), (4, .int x4)]) hx hb dX2_applies_59 hl (by decide) rfl (fun ls hl => ?_)
  refine lv_iload hx hb dX2_applies_61 (lv_at hl 0 rfl) ?_
  refine lv_if_eq (tgt := 78) hx hb dX2_applies_63 (by decide) (fun c10 => ?_) (fun c10 => ?_)
  · rw [if_pos c10] at h
    refine lv_iconst (v := 0) hx hb dX2_applies_78 (by decide) ?_
    exact L_X2_applies_79 C0 hk23 hi0 h _ _ _ hR (lv_sub hl [1, 2, 3, 4] rfl)
  · rw [if_neg c10] at h
    refine lv_aload_n hx hb dX2_applies_66 rfl (lv_at hl 2 rfl) ?_
    refine lv_aload_n hx hb dX2_applies_67 rfl (lv_at hl 1 rfl) ?_
    refine mm_get hx hb hts hown hR 3 i0 6 (mm_vld 3 (by decide) i0 hi0) (v := .ref (ra G 16 i0)) rfl rfl iX2 (by decide) lk_29 rfl dX2_applies_68 ?_
    refine lv_iload hx hb dX2_applies_71 (lv_at hl 4 rfl) ?_
    obtain ⟨z11, h⟩ := mm_if h
    refine mm_ild hx hb hR 16 i0 (mm_vld 16 (by decide) i0 hi0) (L := 3) rfl (okI_in z11) dX2_applies_73 ?_
    obtain ⟨z12, h⟩ := mm_if h
    refine mm_ild hx hb hR 13 0 vl_13 (L := 5) rfl (okI_in z12) dX2_applies_74 ?_
    refine lv_goto (tgt := 79) hx hb dX2_applies_75 (by decide) ?_
    exact L_X2_applies_79 C0 hk23 hi0 h _ _ _ hR (lv_sub hl [1, 2, 3, 4] rfl)
def S_X2_applies_58 (k23 : F3 → Nat → Int32 → Int32 → Option (Int32 × F3)) (f : F3) (i0 : Nat) (x3 : Int32) (x4 : Int32) : Option (Int32 × F3) := S_X2_applies_59 k23 f 0 i0 x3 x4
set_option maxHeartbeats 4000000 in
set_option maxRecDepth 100000 in
theorem L_X2_applies_58 {G : mmG} {p : Program} {e : Env} {s : State} {m : MethodId} {args : Array Value} {below : List Frame} {meth : Method} {c : Code} {f' : F3} {rv : Int32} (C0 : mmC yX2_applies cX2_applies 8 (some .boolean) p s m args meth c) {k23 : F3 → Nat → Int32 → Int32 → Option (Int32 × F3)} (hk23 : ∀ (f : F3) (i0 : Nat) (x3 : Int32) (x4 : Int32), i0 < mm_cnt 3 → k23 f i0 x3 x4 = some (rv, f') → ∀ (H : Heap) (locs : List Loc) (ls : Array Slot), mm_R G mm_NT f (GG f) s H locs → lv_has ls 8 [(0, .ref (ra G 3 i0)), (2, .ref (ra G 13 0)), (3, .int x3), (4, .int x4)] → W p G.1 e (mm_rm 0) s m args below meth c H locs 0 0 (MQ below (mm_Q G mm_NT (some (.int rv)) f' (GG f')) args s 0 0 (mm_A G)) (F0 m 23 ls [])) {f : F3} {i0 : Nat} {x3 : Int32} {x4 : Int32} (hi0 : i0 < mm_cnt 3) (h : S_X2_applies_58 k23 f i0 x3 x4 = some (rv, f')) (H : Heap) (locs : List Loc) (ls : Array Slot) (hR : mm_R G mm_NT f (GG f) s H locs) (hl : lv_has ls 8 [(0, .ref (ra G 3 i0)), (2, .ref (ra G 13 0)), (3, .int x3), (4, .int x4)]) : W p G.1 e (mm_rm 0) s m args below meth c H locs 0 0 (MQ below (mm_Q G mm_NT (some (.int rv)) f' (GG f')) args s 0 0 (mm_A G)) (F0 m 58 ls []) := by
  obtain ⟨hx, hb, hml, hr, hown, hts, hlocks⟩ := id C0
  rw [S_X2_applies_58] at h
  refine lv_iconst (v := 0) hx hb dX2_applies_58 (by decide) ?_
  exact L_X2_applies_59 C0 hk23 hi0 h _ _ _ hR (lv_sub hl [0, 1, 2, 3] rfl)
def S_X2_applies_23 : Nat → F3 → Nat → Int32 → Int32 → Option (Int32 × F3)
  | 0, _, _, _, _ => none
  | n + 1, f, i0, x3, x4 => if (f 3 i0 5) ≤ x4 then (if (f 3 i0 4) = 0 then (if x3 = (f 3 i0 5) then (some (1, f)) else (some (0, f))) else (if x3 ≤ 0 then (some (0, f)) else (some (1, f)))) else (if okI x4 3 then (if (f 16 i0 x4.toNatClampNeg) < 0 then (S_X2_applies_58 (fun f9 i0_ x3_ x4_ => S_X2_applies_23 n f9 i0_ x3_ x4_) f i0 x3 x4) else (if 5 ≤ (f 16 i0 x4.toNatClampNeg) then (S_X2_applies_58 (fun f9 i0_ x3_ x4_ => S_X2_applies_23 n f9 i0_ x3_ x4_) f i0 x3 x4) else (S_X2_applies_59 (fun f9 i0_ x3_ x4_ => S_X2_applies_23 n f9 i0_ x3_ x4_) f 1 i0 x3 x4))) else none)
set_option maxHeartbeats 4000000 in
set_option maxRecDepth 100000 in
theorem L_X2_applies_23 {G : mmG} {p : Program} {e : Env} {s : State} {m : MethodId} {args : Array Value} {below : List Frame} {meth : Method} {c : Code} {f' : F3} {rv : Int32} (C0 : mmC yX2_applies cX2_applies 8 (some .boolean) p s m args meth c) : ∀ (n : Nat) {f : F3} {i0 : Nat} {x3 : Int32} {x4 : Int32} (hi0 : i0 < mm_cnt 3), S_X2_applies_23 n f i0 x3 x4 = some (rv, f') → ∀ (H : Heap) (locs : List Loc) (ls : Array Slot), mm_R G mm_NT f (GG f) s H locs → lv_has ls 8 [(0, .ref (ra G 3 i0)), (2, .ref (ra G 13 0)), (3, .int x3), (4, .int x4)] → W p G.1 e (mm_rm 0) s m args below meth c H locs 0 0 (MQ below (mm_Q G mm_NT (some (.int rv)) f' (GG f')) args s 0 0 (mm_A G)) (F0 m 23 ls []) := by
  obtain ⟨hx, hb, hml, hr, hown, hts, hlocks⟩ := id C0
  intro n
  induction n with
  | zero =>
    intro f i0 x3 x4 hi0 h H locs ls hR hl
    cases h
  | succ n ih =>
    intro f i0 x3 x4 hi0 h H locs ls hR hl
    rw [S_X2_applies_23] at h
    refine lv_iload hx hb dX2_applies_23 (lv_at hl 3 rfl) ?_
    refine lv_aload_n hx hb dX2_applies_25 rfl (lv_at hl 0 rfl) ?_
    refine mm_get hx hb hts hown hR 3 i0 5 (mm_vld 3 (by decide) i0 hi0) (v := .int (f 3 i0 5)) rfl rfl iX2 (by decide) lk_27 rfl dX2_applies_26 ?_
    refine lv_icmp_ge (tgt := 183) hx hb dX2_applies_29 (by decide) (fun c3 => ?_) (fun c3 => ?_)
    · rw [if_pos c3] at h
      refine lv_aload_n hx hb dX2_applies_183 rfl (lv_at hl 0 rfl) ?_
      refine mm_get hx hb hts hown hR 3 i0 4 (mm_vld 3 (by decide) i0 hi0) (v := .int (f 3 i0 4)) rfl rfl iX2 (by decide) lk_28 rfl dX2_applies_184 ?_
      refine lv_if_eq (tgt := 202) hx hb dX2_applies_187 (by decide) (fun c4 => ?_) (fun c4 => ?_)
      · rw [if_pos c4] at h
        refine lv_iload_n hx hb dX2_applies_202 rfl (lv_at hl 2 rfl) ?_
        refine lv_aload_n hx hb dX2_applies_203 rfl (lv_at hl 0 rfl) ?_
        refine mm_get hx hb hts hown hR 3 i0 5 (mm_vld 3 (by decide) i0 hi0) (v := .int (f 3 i0 5)) rfl rfl iX2 (by decide) lk_27 rfl dX2_applies_204 ?_
        refine lv_icmp_ne (tgt := 214) hx hb dX2_applies_207 (by decide) (fun c5 => ?_) (fun c5 => ?_)
        · rw [if_neg c5] at h
          refine lv_iconst (v := 0) hx hb dX2_applies_214 (by decide) ?_
          obtain ⟨rfl, rfl⟩ := mm_pr h
          exact mm_zret C0 rfl hR dX2_applies_215
        · rw [if_pos c5] at h
          refine lv_iconst (v := 1) hx hb dX2_applies_210 (by decide) ?_
          refine lv_goto (tgt := 215) hx hb dX2_applies_211 (by decide) ?_
          obtain ⟨rfl, rfl⟩ := mm_pr h
          exact mm_zret C0 rfl hR dX2_applies_215
      · rw [if_neg c4] at h
        refine lv_iload_n hx hb dX2_applies_190 rfl (lv_at hl 2 rfl) ?_
        refine lv_if_le (tgt := 198) hx hb dX2_applies_191 (by decide) (fun c6 => ?_) (fun c6 => ?_)
        · rw [if_pos c6] at h
          refine lv_iconst (v := 0) hx hb dX2_applies_198 (by decide) ?_
          refine lv_goto (tgt := 215) hx hb dX2_applies_199 (by decide) ?_
          obtain ⟨rfl, rfl⟩ := mm_pr h
          exact mm_zret C0 rfl hR dX2_applies_215
        · rw [if_neg c6] at h
          refine lv_iconst (v := 1) hx hb dX2_applies_194 (by decide) ?_
          refine lv_goto (tgt := 215) hx hb dX2_applies_195 (by decide) ?_
          obtain ⟨rfl, rfl⟩ := mm_pr h
          exact mm_zret C0 rfl hR dX2_applies_215
    · rw [if_neg c3] at h
      refine lv_aload_n hx hb dX2_applies_32 rfl (lv_at hl 0 rfl) ?_
      refine mm_get hx hb hts hown hR 3 i0 6 (mm_vld 3 (by decide) i0 hi0) (v := .ref (ra G 16 i0)) rfl rfl iX2 (by decide) lk_29 rfl dX2_applies_33 ?_
      refine lv_iload hx hb dX2_applies_36 (lv_at hl 3 rfl) ?_
      obtain ⟨z7, h⟩ := mm_if h
      refine mm_ild hx hb hR 16 i0 (mm_vld 16 (by decide) i0 hi0) (L := 3) rfl (okI_in z7) dX2_applies_38 ?_
      refine lv_if_lt (tgt := 58) hx hb dX2_applies_39 (by decide) (fun c8 => ?_) (fun c8 => ?_)
      · rw [if_pos c8] at h
        exact L_X2_applies_58 C0 (fun _ _ _ _ hi0_ h9 H9 locs9 ls9 hR9 hl9 => ih hi0_ h9 _ _ _ hR9 hl9) hi0 h _ _ _ hR (lv_sub hl [0, 1, 2, 3] rfl)
      · rw [if_neg c8] at h
        refine lv_aload_n hx hb dX2_applies_42 rfl (lv_at hl 0 rfl) ?_
        refine mm_get hx hb hts hown hR 3 i0 6 (mm_vld 3 (by decide) i0 hi0) (v := .ref (ra G 16 i0)) rfl rfl iX2 (by decide) lk_29 rfl dX2_applies_43 ?_
        refine lv_iload hx hb dX2_applies_46 (lv_at hl 3 rfl) ?_
        refine mm_ild hx hb hR 16 i0 (mm_vld 16 (by decide) i0 hi0) (L := 3) rfl (okI_in z7) dX2_applies_48 ?_
        refine lv_aload_n hx hb dX2_applies_49 rfl (lv_at hl 1 rfl) ?_
        refine mm_alen hx hb hR 13 0 vl_13 (L := 5) rfl (v := 5) rfl dX2_applies_50 ?_
        refine lv_icmp_ge (tgt := 58) hx hb dX2_applies_51 (by decide) (fun c9 => ?_) (fun c9 => ?_)
        · rw [if_pos c9] at h
          exact L_X2_applies_58 C0 (fun _ _ _ _ hi0_ h9 H9 locs9 ls9 hR9 hl9 => ih hi0_ h9 _ _ _ hR9 hl9) hi0 h _ _ _ hR (lv_sub hl [0, 1, 2, 3] rfl)
        · rw [if_neg c9] at h
          refine lv_iconst (v := 1) hx hb dX2_applies_54 (by decide) ?_
          refine lv_goto (tgt := 59) hx hb dX2_applies_55 (by decide) ?_
          exact L_X2_applies_59 C0 (fun _ _ _ _ hi0_ h9 H9 locs9 ls9 hR9 hl9 => ih hi0_ h9 _ _ _ hR9 hl9) hi0 h _ _ _ hR (lv_sub hl [0, 1, 2, 3] rfl)
def S_X2_applies (f : F3) (i0 : Nat) (x1 : Int32) : Option (Int32 × F3) := if x1 < (f 3 i0 2) then (some (0, f)) else (if x1 < (f 3 i0 3) then (S_X2_applies_23 FU f i0 0 0) else (some (0, f)))
set_option maxHeartbeats 4000000 in
set_option maxRecDepth 100000 in
theorem T_X2_applies (G : mmG) {f f' : F3} {rv : Int32} {i0 : Nat} {x1 : Int32} (hi0 : i0 < mm_cnt 3) (h : S_X2_applies f i0 x1 = some (rv, f')) : mmM G yX2_applies cX2_applies 8 (some .boolean) 0 [.ref (ra G 3 i0), .int x1, .ref (ra G 13 0)] f (some (.int rv)) f' := by
  refine mm_start (by decide +kernel) (Nat.le_of_ble_eq_true rfl) ?_
  intro p e s m args below meth c ls C0 hR hl
  obtain ⟨hx, hb, hml, hr, hown, hts, hlocks⟩ := id C0
  have hl : lv_has ls 8 [(0, .ref (ra G 3 i0)), (1, .int x1), (2, .ref (ra G 13 0))] := hl
  rw [S_X2_applies] at h
  refine lv_iload_n hx hb dX2_applies_0 rfl (lv_at hl 1 rfl) ?_
  refine lv_aload_n hx hb dX2_applies_1 rfl (lv_at hl 0 rfl) ?_
  refine mm_get hx hb hts hown hR 3 i0 2 (mm_vld 3 (by decide) i0 hi0) (v := .int (f 3 i0 2)) rfl rfl iX2 (by decide) lk_25 rfl dX2_applies_2 ?_
  refine lv_icmp_lt (tgt := 16) hx hb dX2_applies_5 (by decide) (fun c1 => ?_) (fun c1 => ?_)
  · rw [if_pos c1] at h
    refine lv_iconst (v := 0) hx hb dX2_applies_16 (by decide) ?_
    obtain ⟨rfl, rfl⟩ := mm_pr h
    exact mm_zret C0 rfl hR dX2_applies_17
  · rw [if_neg c1] at h
    refine lv_iload_n hx hb dX2_applies_8 rfl (lv_at hl 1 rfl) ?_
    refine lv_aload_n hx hb dX2_applies_9 rfl (lv_at hl 0 rfl) ?_
    refine mm_get hx hb hts hown hR 3 i0 3 (mm_vld 3 (by decide) i0 hi0) (v := .int (f 3 i0 3)) rfl rfl iX2 (by decide) lk_26 rfl dX2_applies_10 ?_
    refine lv_icmp_lt (tgt := 18) hx hb dX2_applies_13 (by decide) (fun c2 => ?_) (fun c2 => ?_)
    · rw [if_pos c2] at h
      refine lv_iconst (v := 0) hx hb dX2_applies_18 (by decide) ?_
      refine lv_istore_n (lv' := [(3, .int 0), (0, .ref (ra G 3 i0)), (1, .int x1), (2, .ref (ra G 13 0))]) hx hb dX2_applies_19 rfl hl (by decide) rfl (fun ls hl => ?_)
      refine lv_iconst (v := 0) hx hb dX2_applies_20 (by decide) ?_
      refine lv_istore (lv' := [(4, .int 0), (3, .int 0), (0, .ref (ra G 3 i0)), (1, .int x1), (2, .ref (ra G 13 0))]) hx hb dX2_applies_21 hl (by decide) rfl (fun ls hl => ?_)
      exact L_X2_applies_23 C0 _ hi0 h _ _ _ hR (lv_sub hl [2, 4, 1, 0] rfl)
    · rw [if_neg c2] at h
      refine lv_iconst (v := 0) hx hb dX2_applies_16 (by decide) ?_
      obtain ⟨rfl, rfl⟩ := mm_pr h
      exact mm_zret C0 rfl hR dX2_applies_17
def S_X3_isAtEnd (f : F3)  : Option (Int32 × F3) := if (f 4 0 1) < (f 5 0 1) then (some (0, f)) else (some (1, f))
set_option maxHeartbeats 4000000 in
set_option maxRecDepth 100000 in
theorem T_X3_isAtEnd (G : mmG) {f f' : F3} {rv : Int32} (h : S_X3_isAtEnd f = some (rv, f')) : mmM G yX3_isAtEnd cX3_isAtEnd 1 (some .boolean) 0 [.ref (ra G 4 0)] f (some (.int rv)) f' := by
  refine mm_start (by decide +kernel) (Nat.le_of_ble_eq_true rfl) ?_
  intro p e s m args below meth c ls C0 hR hl
  obtain ⟨hx, hb, hml, hr, hown, hts, hlocks⟩ := id C0
  have hl : lv_has ls 1 [(0, .ref (ra G 4 0))] := hl
  rw [S_X3_isAtEnd] at h
  refine lv_aload_n hx hb dX3_isAtEnd_0 rfl (lv_at hl 0 rfl) ?_
  refine mm_get hx hb hts hown hR 4 0 1 vl_4 (v := .int (f 4 0 1)) rfl rfl iX3 (by decide) lk_32 rfl dX3_isAtEnd_1 ?_
  refine lv_aload_n hx hb dX3_isAtEnd_4 rfl (lv_at hl 0 rfl) ?_
  refine mm_get hx hb hts hown hR 4 0 0 vl_4 (v := .ref (ra G 5 0)) rfl rfl iX3 (by decide) lk_33 rfl dX3_isAtEnd_5 ?_
  refine mm_get hx hb hts hown hR 5 0 1 vl_5 (v := .int (f 5 0 1)) rfl rfl iX4 (by decide) lk_34 rfl dX3_isAtEnd_8 ?_
  refine lv_icmp_lt (tgt := 18) hx hb dX3_isAtEnd_11 (by decide) (fun c1 => ?_) (fun c1 => ?_)
  · rw [if_pos c1] at h
    refine lv_iconst (v := 0) hx hb dX3_isAtEnd_18 (by decide) ?_
    obtain ⟨rfl, rfl⟩ := mm_pr h
    exact mm_zret C0 rfl hR dX3_isAtEnd_19
  · rw [if_neg c1] at h
    refine lv_iconst (v := 1) hx hb dX3_isAtEnd_14 (by decide) ?_
    refine lv_goto (tgt := 19) hx hb dX3_isAtEnd_15 (by decide) ?_
    obtain ⟨rfl, rfl⟩ := mm_pr h
    exact mm_zret C0 rfl hR dX3_isAtEnd_19
def S_X4_at (f : F3) (x1 : Int32) : Option (Int32 × F3) := if x1 < 0 then (some ((-1), f)) else (if (f 5 0 1) ≤ x1 then (some ((-1), f)) else (if okI x1 80 then (some (f 15 0 x1.toNatClampNeg, f)) else none))
set_option maxHeartbeats 4000000 in
set_option maxRecDepth 100000 in
theorem T_X4_at (G : mmG) {f f' : F3} {rv : Int32} {x1 : Int32} (h : S_X4_at f x1 = some (rv, f')) : mmM G yX4_at cX4_at 2 (some .int) 0 [.ref (ra G 5 0), .int x1] f (some (.int rv)) f' := by
  refine mm_start (by decide +kernel) (Nat.le_of_ble_eq_true rfl) ?_
  intro p e s m args below meth c ls C0 hR hl
  obtain ⟨hx, hb, hml, hr, hown, hts, hlocks⟩ := id C0
  have hl : lv_has ls 2 [(0, .ref (ra G 5 0)), (1, .int x1)] := hl
  rw [S_X4_at] at h
  refine lv_iload_n hx hb dX4_at_0 rfl (lv_at hl 1 rfl) ?_
  refine lv_if_lt (tgt := 21) hx hb dX4_at_1 (by decide) (fun c1 => ?_) (fun c1 => ?_)
  · rw [if_pos c1] at h
    refine lv_iconst (v := (-1)) hx hb dX4_at_21 (by decide) ?_
    obtain ⟨rfl, rfl⟩ := mm_pr h
    exact mm_iret C0 hR dX4_at_22
  · rw [if_neg c1] at h
    refine lv_iload_n hx hb dX4_at_4 rfl (lv_at hl 1 rfl) ?_
    refine lv_aload_n hx hb dX4_at_5 rfl (lv_at hl 0 rfl) ?_
    refine mm_get hx hb hts hown hR 5 0 1 vl_5 (v := .int (f 5 0 1)) rfl rfl iX4 (by decide) lk_35 rfl dX4_at_6 ?_
    refine lv_icmp_ge (tgt := 21) hx hb dX4_at_9 (by decide) (fun c2 => ?_) (fun c2 => ?_)
    · rw [if_pos c2] at h
      refine lv_iconst (v := (-1)) hx hb dX4_at_21 (by decide) ?_
      obtain ⟨rfl, rfl⟩ := mm_pr h
      exact mm_iret C0 hR dX4_at_22
    · rw [if_neg c2] at h
      refine lv_aload_n hx hb dX4_at_12 rfl (lv_at hl 0 rfl) ?_
      refine mm_get hx hb hts hown hR 5 0 0 vl_5 (v := .ref (ra G 15 0)) rfl rfl iX4 (by decide) lk_36 rfl dX4_at_13 ?_
      refine lv_iload_n hx hb dX4_at_16 rfl (lv_at hl 1 rfl) ?_
      obtain ⟨z3, h⟩ := mm_if h
      refine mm_ild hx hb hR 15 0 vl_15 (L := 80) rfl (okI_in z3) dX4_at_17 ?_
      refine lv_goto (tgt := 22) hx hb dX4_at_18 (by decide) ?_
      obtain ⟨rfl, rfl⟩ := mm_pr h
      exact mm_iret C0 hR dX4_at_22
def S_X3_takeWord_2 : Nat → F3 → Nat → Int32 → Option (Int32 × F3)
  | 0, _, _, _ => none
  | n + 1, f, j1, x2 => if (slenI j1) ≤ x2 then (some (1, f)) else (mm_b2 (S_X4_at f (f 4 0 1)) fun r3 f2 => if okI x2 (mm_sl.getD j1 0) then (if r3 = (scharI j1 x2) then (mm_let (up f2 4 0 1 ((f2 4 0 1) + 1)) fun f6 => S_X3_takeWord_2 n f6 j1 (x2 + 1)) else (some (0, f2))) else none)
set_option maxHeartbeats 4000000 in
set_option maxRecDepth 100000 in
theorem L_X3_takeWord_2 {G : mmG} {p : Program} {e : Env} {s : State} {m : MethodId} {args : Array Value} {below : List Frame} {meth : Method} {c : Code} {f' : F3} {rv : Int32} (C0 : mmC yX3_takeWord cX3_takeWord 3 (some .boolean) p s m args meth c) : ∀ (n : Nat) {f : F3} {j1 : Nat} {x2 : Int32} (hj1 : j1 < 11), S_X3_takeWord_2 n f j1 x2 = some (rv, f') → ∀ (H : Heap) (locs : List Loc) (ls : Array Slot), mm_R G mm_NT f (GG f) s H locs → lv_has ls 3 [(0, .ref (ra G 4 0)), (1, .ref (G.2.2.2.2.1 j1)), (2, .int x2)] → W p G.1 e (mm_rm 4) s m args below meth c H locs 0 0 (MQ below (mm_Q G mm_NT (some (.int rv)) f' (GG f')) args s 0 0 (mm_A G)) (F0 m 2 ls []) := by
  obtain ⟨hx, hb, hml, hr, hown, hts, hlocks⟩ := id C0
  intro n
  induction n with
  | zero =>
    intro f j1 x2 hj1 h H locs ls hR hl
    cases h
  | succ n ih =>
    intro f j1 x2 hj1 h H locs ls hR hl
    rw [S_X3_takeWord_2] at h
    refine lv_iload_n hx hb dX3_takeWord_2 rfl (lv_at hl 2 rfl) ?_
    refine lv_aload_n hx hb dX3_takeWord_3 rfl (lv_at hl 1 rfl) ?_
    refine mm_slen C0 rfl hR hj1 lk_37 (rest := [.int x2]) hl.1 (Nat.le_of_ble_eq_true rfl) ⟨by decide, by decide⟩ dX3_takeWord_4 (fun H locs hR => ?_)
    refine lv_icmp_ge (tgt := 47) hx hb dX3_takeWord_7 (by decide) (fun c1 => ?_) (fun c1 => ?_)
    · rw [if_pos c1] at h
      refine lv_iconst (v := 1) hx hb dX3_takeWord_47 (by decide) ?_
      obtain ⟨rfl, rfl⟩ := mm_pr h
      exact mm_zret C0 rfl hR dX3_takeWord_48
    · rw [if_neg c1] at h
      refine lv_aload_n hx hb dX3_takeWord_10 rfl (lv_at hl 0 rfl) ?_
      refine mm_get hx hb hts hown hR 4 0 0 vl_4 (v := .ref (ra G 5 0)) rfl rfl iX3 (by decide) lk_33 rfl dX3_takeWord_11 ?_
      refine lv_aload_n hx hb dX3_takeWord_14 rfl (lv_at hl 0 rfl) ?_
      refine mm_get hx hb hts hown hR 4 0 1 vl_4 (v := .int (f 4 0 1)) rfl rfl iX3 (by decide) lk_32 rfl dX3_takeWord_15 ?_
      obtain ⟨r3, f2, ef2, h⟩ := mm_b2e h
      refine mm_callV (v := some (.int r3)) (f1 := f2) (d0 := 0) (rest := []) [.int (f 4 0 1)] C0 rfl hR 5 0 (T_X4_at G ef2) ws_X4_at lk_38 hd_X4_at ⟨by decide, by decide⟩ vl_5 rfl rfl rfl hl.1 rfl (Nat.le_of_ble_eq_true rfl) dX3_takeWord_18 (fun H locs hR => ?_)
      refine W.eq (g2 := F0 m 21 ls (.int r3 :: [])) rfl ?_
      refine lv_aload_n hx hb dX3_takeWord_21 rfl (lv_at hl 1 rfl) ?_
      refine lv_iload_n hx hb dX3_takeWord_22 rfl (lv_at hl 2 rfl) ?_
      obtain ⟨z4, h⟩ := mm_if h
      refine mm_schar C0 rfl hR hj1 z4 lk_39 (rest := [.int r3]) hl.1 (Nat.le_of_ble_eq_true rfl) ⟨by decide, by decide⟩ dX3_takeWord_23 (fun H locs hR => ?_)
      refine lv_icmp_eq (tgt := 31) hx hb dX3_takeWord_26 (by decide) (fun c5 => ?_) (fun c5 => ?_)
      · rw [if_pos c5] at h
        refine lv_aload_n hx hb dX3_takeWord_31 rfl (lv_at hl 0 rfl) ?_
        refine lv_dup hx hb dX3_takeWord_32 rfl ?_
        refine mm_get hx hb hts hown hR 4 0 1 vl_4 (v := .int (f2 4 0 1)) rfl rfl iX3 (by decide) lk_32 rfl dX3_takeWord_33 ?_
        refine lv_iconst (v := 1) hx hb dX3_takeWord_36 (by decide) ?_
        refine lv_iadd hx hb dX3_takeWord_37 ?_
        obtain ⟨f6, ef6, h⟩ := mm_lt h
        refine mm_put hx hb hts hown hR 4 0 1 (by decide) vl_4 (x := (f2 4 0 1) + 1) rfl rfl iX3 tyX3 tyX3_ok nmX3 (by decide) lk_32 rfl rfl rfl (Nat.le_of_ble_eq_true rfl) rfl dX3_takeWord_38 (fun H locs hR => ?_)
        rw [← ef6] at hR
        refine lv_iinc (v := x2 + 1) (lv' := [(2, .int (x2 + 1)), (0, .ref (ra G 4 0)), (1, .ref (G.2.2.2.2.1 j1))]) hx hb dX3_takeWord_41 hl (k := 2) rfl rfl (by decide) rfl (fun ls hl => ?_)
        refine lv_goto (tgt := 2) hx hb dX3_takeWord_44 (by decide) ?_
        exact ih hj1 h _ _ _ hR (lv_sub hl [1, 2, 0] rfl)
      · rw [if_neg c5] at h
        refine lv_iconst (v := 0) hx hb dX3_takeWord_29 (by decide) ?_
        obtain ⟨rfl, rfl⟩ := mm_pr h
        exact mm_zret C0 rfl hR dX3_takeWord_30
def S_X3_takeWord (f : F3) (j1 : Nat) : Option (Int32 × F3) := S_X3_takeWord_2 FU f j1 0
set_option maxHeartbeats 4000000 in
set_option maxRecDepth 100000 in
theorem T_X3_takeWord (G : mmG) {f f' : F3} {rv : Int32} {j1 : Nat} (hj1 : j1 < 11) (h : S_X3_takeWord f j1 = some (rv, f')) : mmM G yX3_takeWord cX3_takeWord 3 (some .boolean) 4 [.ref (ra G 4 0), .ref (G.2.2.2.2.1 j1)] f (some (.int rv)) f' := by
  refine mm_start (by decide +kernel) (Nat.le_of_ble_eq_true rfl) ?_
  intro p e s m args below meth c ls C0 hR hl
  obtain ⟨hx, hb, hml, hr, hown, hts, hlocks⟩ := id C0
  have hl : lv_has ls 3 [(0, .ref (ra G 4 0)), (1, .ref (G.2.2.2.2.1 j1))] := hl
  rw [S_X3_takeWord] at h
  refine lv_iconst (v := 0) hx hb dX3_takeWord_0 (by decide) ?_
  refine lv_istore_n (lv' := [(2, .int 0), (0, .ref (ra G 4 0)), (1, .ref (G.2.2.2.2.1 j1))]) hx hb dX3_takeWord_1 rfl hl (by decide) rfl (fun ls hl => ?_)
  exact L_X3_takeWord_2 C0 _ hj1 h _ _ _ hR (lv_sub hl [1, 2, 0] rfl)
def S_X3_takeField (f : F3)  : Option (Int32 × F3) := mm_b2 (S_X4_at f (f 4 0 1)) fun r2 f1 => if r2 = 99 then (mm_b2 (S_X3_takeWord f1 8) fun r6 f5 => if r6 = 0 then (some ((-1), f5)) else (some (2, f5))) else if r2 = 104 then (mm_b2 (S_X3_takeWord f1 9) fun r10 f9 => if r10 = 0 then (some ((-1), f9)) else (some (3, f9))) else if r2 = 114 then (mm_b2 (S_X3_takeWord f1 7) fun r14 f13 => if r14 = 0 then (some ((-1), f13)) else (some (1, f13))) else if r2 = 115 then (mm_b2 (S_X3_takeWord f1 10) fun r18 f17 => if r18 = 0 then (some ((-1), f17)) else (some (4, f17))) else if r2 = 119 then (mm_b2 (S_X3_takeWord f1 6) fun r22 f21 => if r22 = 0 then (some ((-1), f21)) else (some (0, f21))) else (some ((-1), f1))
set_option maxHeartbeats 4000000 in
set_option maxRecDepth 100000 in
theorem T_X3_takeField (G : mmG) {f f' : F3} {rv : Int32} (h : S_X3_takeField f = some (rv, f')) : mmM G yX3_takeField cX3_takeField 1 (some .int) 5 [.ref (ra G 4 0)] f (some (.int rv)) f' := by
  refine mm_start (by decide +kernel) (Nat.le_of_ble_eq_true rfl) ?_
  intro p e s m args below meth c ls C0 hR hl
  obtain ⟨hx, hb, hml, hr, hown, hts, hlocks⟩ := id C0
  have hl : lv_has ls 1 [(0, .ref (ra G 4 0))] := hl
  rw [S_X3_takeField] at h
  refine lv_aload_n hx hb dX3_takeField_0 rfl (lv_at hl 0 rfl) ?_
  refine mm_get hx hb hts hown hR 4 0 0 vl_4 (v := .ref (ra G 5 0)) rfl rfl iX3 (by decide) lk_33 rfl dX3_takeField_1 ?_
  refine lv_aload_n hx hb dX3_takeField_4 rfl (lv_at hl 0 rfl) ?_
  refine mm_get hx hb hts hown hR 4 0 1 vl_4 (v := .int (f 4 0 1)) rfl rfl iX3 (by decide) lk_32 rfl dX3_takeField_5 ?_
  obtain ⟨r2, f1, ef1, h⟩ := mm_b2e h
  refine mm_callV (v := some (.int r2)) (f1 := f1) (d0 := 0) (rest := []) [.int (f 4 0 1)] C0 rfl hR 5 0 (T_X4_at G ef1) ws_X4_at lk_38 hd_X4_at ⟨by decide, by decide⟩ vl_5 rfl rfl rfl hl.1 rfl (Nat.le_of_ble_eq_true rfl) dX3_takeField_8 (fun H locs hR => ?_)
  refine W.eq (g2 := F0 m 11 ls (.int r2 :: [])) rfl ?_
  refine lv_topi (fun w3 ew3 => ?_)
  by_cases c4 : w3 = 99
  · rw [if_pos (ew3.symm.trans c4)] at h
    rw [c4]
    refine lv_lookup (off := 79) (tgt := 90) hx hb dX3_takeField_11 (by decide +kernel) (by decide +kernel) (by decide) ?_
    refine lv_aload_n hx hb dX3_takeField_90 rfl (lv_at hl 0 rfl) ?_
    refine va_ldcS hx hb hown (hR.2.2.2.2.1 8 (by decide)) dX3_takeField_91 ?_
    obtain ⟨r6, f5, ef5, h⟩ := mm_b2e h
    refine mm_callV (v := some (.int r6)) (f1 := f5) (d0 := 4) (rest := []) [.ref (G.2.2.2.2.1 8)] C0 rfl hR 4 0 (T_X3_takeWord G (by decide) ef5) ws_X3_takeWord lk_40 hd_X3_takeWord ⟨by decide, by decide⟩ vl_4 rfl rfl rfl hl.1 rfl (Nat.le_of_ble_eq_true rfl) dX3_takeField_93 (fun H locs hR => ?_)
    refine W.eq (g2 := F0 m 96 ls (.int r6 :: [])) rfl ?_
    refine lv_if_eq (tgt := 103) hx hb dX3_takeField_96 (by decide) (fun c7 => ?_) (fun c7 => ?_)
    · rw [if_pos c7] at h
      refine lv_iconst (v := (-1)) hx hb dX3_takeField_103 (by decide) ?_
      obtain ⟨rfl, rfl⟩ := mm_pr h
      exact mm_iret C0 hR dX3_takeField_104
    · rw [if_neg c7] at h
      refine lv_iconst (v := 2) hx hb dX3_takeField_99 (by decide) ?_
      refine lv_goto (tgt := 104) hx hb dX3_takeField_100 (by decide) ?_
      obtain ⟨rfl, rfl⟩ := mm_pr h
      exact mm_iret C0 hR dX3_takeField_104
  rw [if_neg (fun q => c4 (ew3.trans q))] at h
  by_cases c8 : w3 = 104
  · rw [if_pos (ew3.symm.trans c8)] at h
    rw [c8]
    refine lv_lookup (off := 94) (tgt := 105) hx hb dX3_takeField_11 (by decide +kernel) (by decide +kernel) (by decide) ?_
    refine lv_aload_n hx hb dX3_takeField_105 rfl (lv_at hl 0 rfl) ?_
    refine va_ldcS hx hb hown (hR.2.2.2.2.1 9 (by decide)) dX3_takeField_106 ?_
    obtain ⟨r10, f9, ef9, h⟩ := mm_b2e h
    refine mm_callV (v := some (.int r10)) (f1 := f9) (d0 := 4) (rest := []) [.ref (G.2.2.2.2.1 9)] C0 rfl hR 4 0 (T_X3_takeWord G (by decide) ef9) ws_X3_takeWord lk_40 hd_X3_takeWord ⟨by decide, by decide⟩ vl_4 rfl rfl rfl hl.1 rfl (Nat.le_of_ble_eq_true rfl) dX3_takeField_108 (fun H locs hR => ?_)
    refine W.eq (g2 := F0 m 111 ls (.int r10 :: [])) rfl ?_
    refine lv_if_eq (tgt := 118) hx hb dX3_takeField_111 (by decide) (fun c11 => ?_) (fun c11 => ?_)
    · rw [if_pos c11] at h
      refine lv_iconst (v := (-1)) hx hb dX3_takeField_118 (by decide) ?_
      obtain ⟨rfl, rfl⟩ := mm_pr h
      exact mm_iret C0 hR dX3_takeField_119
    · rw [if_neg c11] at h
      refine lv_iconst (v := 3) hx hb dX3_takeField_114 (by decide) ?_
      refine lv_goto (tgt := 119) hx hb dX3_takeField_115 (by decide) ?_
      obtain ⟨rfl, rfl⟩ := mm_pr h
      exact mm_iret C0 hR dX3_takeField_119
  rw [if_neg (fun q => c8 (ew3.trans q))] at h
  by_cases c12 : w3 = 114
  · rw [if_pos (ew3.symm.trans c12)] at h
    rw [c12]
    refine lv_lookup (off := 64) (tgt := 75) hx hb dX3_takeField_11 (by decide +kernel) (by decide +kernel) (by decide) ?_
    refine lv_aload_n hx hb dX3_takeField_75 rfl (lv_at hl 0 rfl) ?_
    refine va_ldcS hx hb hown (hR.2.2.2.2.1 7 (by decide)) dX3_takeField_76 ?_
    obtain ⟨r14, f13, ef13, h⟩ := mm_b2e h
    refine mm_callV (v := some (.int r14)) (f1 := f13) (d0 := 4) (rest := []) [.ref (G.2.2.2.2.1 7)] C0 rfl hR 4 0 (T_X3_takeWord G (by decide) ef13) ws_X3_takeWord lk_40 hd_X3_takeWord ⟨by decide, by decide⟩ vl_4 rfl rfl rfl hl.1 rfl (Nat.le_of_ble_eq_true rfl) dX3_takeField_78 (fun H locs hR => ?_)
    refine W.eq (g2 := F0 m 81 ls (.int r14 :: [])) rfl ?_
    refine lv_if_eq (tgt := 88) hx hb dX3_takeField_81 (by decide) (fun c15 => ?_) (fun c15 => ?_)
    · rw [if_pos c15] at h
      refine lv_iconst (v := (-1)) hx hb dX3_takeField_88 (by decide) ?_
      obtain ⟨rfl, rfl⟩ := mm_pr h
      exact mm_iret C0 hR dX3_takeField_89
    · rw [if_neg c15] at h
      refine lv_iconst (v := 1) hx hb dX3_takeField_84 (by decide) ?_
      refine lv_goto (tgt := 89) hx hb dX3_takeField_85 (by decide) ?_
      obtain ⟨rfl, rfl⟩ := mm_pr h
      exact mm_iret C0 hR dX3_takeField_89
  rw [if_neg (fun q => c12 (ew3.trans q))] at h
  by_cases c16 : w3 = 115
  · rw [if_pos (ew3.symm.trans c16)] at h
    rw [c16]
    refine lv_lookup (off := 109) (tgt := 120) hx hb dX3_takeField_11 (by decide +kernel) (by decide +kernel) (by decide) ?_
    refine lv_aload_n hx hb dX3_takeField_120 rfl (lv_at hl 0 rfl) ?_
    refine va_ldcS hx hb hown (hR.2.2.2.2.1 10 (by decide)) dX3_takeField_121 ?_
    obtain ⟨r18, f17, ef17, h⟩ := mm_b2e h
    refine mm_callV (v := some (.int r18)) (f1 := f17) (d0 := 4) (rest := []) [.ref (G.2.2.2.2.1 10)] C0 rfl hR 4 0 (T_X3_takeWord G (by decide) ef17) ws_X3_takeWord lk_40 hd_X3_takeWord ⟨by decide, by decide⟩ vl_4 rfl rfl rfl hl.1 rfl (Nat.le_of_ble_eq_true rfl) dX3_takeField_123 (fun H locs hR => ?_)
    refine W.eq (g2 := F0 m 126 ls (.int r18 :: [])) rfl ?_
    refine lv_if_eq (tgt := 133) hx hb dX3_takeField_126 (by decide) (fun c19 => ?_) (fun c19 => ?_)
    · rw [if_pos c19] at h
      refine lv_iconst (v := (-1)) hx hb dX3_takeField_133 (by decide) ?_
      obtain ⟨rfl, rfl⟩ := mm_pr h
      exact mm_iret C0 hR dX3_takeField_134
    · rw [if_neg c19] at h
      refine lv_iconst (v := 4) hx hb dX3_takeField_129 (by decide) ?_
      refine lv_goto (tgt := 134) hx hb dX3_takeField_130 (by decide) ?_
      obtain ⟨rfl, rfl⟩ := mm_pr h
      exact mm_iret C0 hR dX3_takeField_134
  rw [if_neg (fun q => c16 (ew3.trans q))] at h
  by_cases c20 : w3 = 119
  · rw [if_pos (ew3.symm.trans c20)] at h
    rw [c20]
    refine lv_lookup (off := 49) (tgt := 60) hx hb dX3_takeField_11 (by decide +kernel) (by decide +kernel) (by decide) ?_
    refine lv_aload_n hx hb dX3_takeField_60 rfl (lv_at hl 0 rfl) ?_
    refine va_ldcS hx hb hown (hR.2.2.2.2.1 6 (by decide)) dX3_takeField_61 ?_
    obtain ⟨r22, f21, ef21, h⟩ := mm_b2e h
    refine mm_callV (v := some (.int r22)) (f1 := f21) (d0 := 4) (rest := []) [.ref (G.2.2.2.2.1 6)] C0 rfl hR 4 0 (T_X3_takeWord G (by decide) ef21) ws_X3_takeWord lk_40 hd_X3_takeWord ⟨by decide, by decide⟩ vl_4 rfl rfl rfl hl.1 rfl (Nat.le_of_ble_eq_true rfl) dX3_takeField_63 (fun H locs hR => ?_)
    refine W.eq (g2 := F0 m 66 ls (.int r22 :: [])) rfl ?_
    refine lv_if_eq (tgt := 73) hx hb dX3_takeField_66 (by decide) (fun c23 => ?_) (fun c23 => ?_)
    · rw [if_pos c23] at h
      refine lv_iconst (v := (-1)) hx hb dX3_takeField_73 (by decide) ?_
      obtain ⟨rfl, rfl⟩ := mm_pr h
      exact mm_iret C0 hR dX3_takeField_74
    · rw [if_neg c23] at h
      refine lv_iconst (v := 0) hx hb dX3_takeField_69 (by decide) ?_
      refine lv_goto (tgt := 74) hx hb dX3_takeField_70 (by decide) ?_
      obtain ⟨rfl, rfl⟩ := mm_pr h
      exact mm_iret C0 hR dX3_takeField_74
  rw [if_neg (fun q => c20 (ew3.trans q))] at h
  refine lv_lookup (off := 124) (tgt := 135) hx hb dX3_takeField_11 (by decide +kernel) (by show Op.lookupswitch.offset [(99, 79), (104, 94), (114, 64), (115, 109), (119, 49)] _ _ = _; rw [lv_osw c4 (by decide), lv_osw c8 (by decide), lv_osw c12 (by decide), lv_osw c16 (by decide), lv_osw c20 (by decide), Op.lookupswitch.offset_nil]) (by decide) ?_
  refine lv_iconst (v := (-1)) hx hb dX3_takeField_135 (by decide) ?_
  obtain ⟨rfl, rfl⟩ := mm_pr h
  exact mm_iret C0 hR dX3_takeField_136
def S_X3_takeJoint_48 (f : F3) (t1 : Nat) : Option (Int32 × F3) := mm_b2 (S_X3_takeWord f t1) fun r9 f8 => if okB r9 then (some (r9, f8)) else none
set_option maxHeartbeats 4000000 in
set_option maxRecDepth 100000 in
theorem L_X3_takeJoint_48 {G : mmG} {p : Program} {e : Env} {s : State} {m : MethodId} {args : Array Value} {below : List Frame} {meth : Method} {c : Code} {f' : F3} {rv : Int32} (C0 : mmC yX3_takeJoint cX3_takeJoint 2 (some .boolean) p s m args meth c) {f : F3} {t1 : Nat} (ht1 : t1 < 11) (h : S_X3_takeJoint_48 f t1 = some (rv, f')) (H : Heap) (locs : List Loc) (ls : Array Slot) (hR : mm_R G mm_NT f (GG f) s H locs) (hl : lv_has ls 2 []) : W p G.1 e (mm_rm 5) s m args below meth c H locs 0 0 (MQ below (mm_Q G mm_NT (some (.int rv)) f' (GG f')) args s 0 0 (mm_A G)) (F0 m 48 ls [.ref (G.2.2.2.2.1 t1), .ref (ra G 4 0)]) := by
  obtain ⟨hx, hb, hml, hr, hown, hts, hlocks⟩ := id C0
  rw [S_X3_takeJoint_48] at h
  obtain ⟨r9, f8, ef8, h⟩ := mm_b2e h
  refine mm_callV (v := some (.int r9)) (f1 := f8) (d0 := 4) (rest := []) [.ref (G.2.2.2.2.1 t1)] C0 rfl hR 4 0 (T_X3_takeWord G ht1 ef8) ws_X3_takeWord lk_40 hd_X3_takeWord ⟨by decide, by decide⟩ vl_4 rfl rfl rfl hl.1 rfl (Nat.le_of_ble_eq_true rfl) dX3_takeJoint_48 (fun H locs hR => ?_)
  refine W.eq (g2 := F0 m 51 ls (.int r9 :: [])) rfl ?_
  obtain ⟨z10, h⟩ := mm_if h
  obtain ⟨rfl, rfl⟩ := mm_pr h
  exact mm_zret C0 (okB_n z10) hR dX3_takeJoint_51
def S_X3_takeJoint_33 (f : F3) (i1 : Nat) : Option (Int32 × F3) := if (f 3 i1 4) = 0 then (S_X3_takeJoint_48 f 5) else (S_X3_takeJoint_48 f 4)
set_option maxHeartbeats 4000000 in
set_option maxRecDepth 100000 in
theorem L_X3_takeJoint_33 {G : mmG} {p : Program} {e : Env} {s : State} {m : MethodId} {args : Array Value} {below : List Frame} {meth : Method} {c : Code} {f' : F3} {rv : Int32} (C0 : mmC yX3_takeJoint cX3_takeJoint 2 (some .boolean) p s m args meth c) {f : F3} {i1 : Nat} (hi1 : i1 < mm_cnt 3) (h : S_X3_takeJoint_33 f i1 = some (rv, f')) (H : Heap) (locs : List Loc) (ls : Array Slot) (hR : mm_R G mm_NT f (GG f) s H locs) (hl : lv_has ls 2 [(0, .ref (ra G 4 0)), (1, .ref (ra G 3 i1))]) : W p G.1 e (mm_rm 5) s m args below meth c H locs 0 0 (MQ below (mm_Q G mm_NT (some (.int rv)) f' (GG f')) args s 0 0 (mm_A G)) (F0 m 33 ls []) := by
  obtain ⟨hx, hb, hml, hr, hown, hts, hlocks⟩ := id C0
  rw [S_X3_takeJoint_33] at h
  refine lv_aload_n hx hb dX3_takeJoint_33 rfl (lv_at hl 0 rfl) ?_
  refine lv_aload_n hx hb dX3_takeJoint_34 rfl (lv_at hl 1 rfl) ?_
  refine mm_get hx hb hts hown hR 3 i1 4 (mm_vld 3 (by decide) i1 hi1) (v := .int (f 3 i1 4)) rfl rfl iX2 (by decide) lk_42 rfl dX3_takeJoint_35 ?_
  refine lv_if_eq (tgt := 46) hx hb dX3_takeJoint_38 (by decide) (fun c5 => ?_) (fun c5 => ?_)
  · rw [if_pos c5] at h
    refine va_ldcS hx hb hown (hR.2.2.2.2.1 5 (by decide)) dX3_takeJoint_46 ?_
    exact L_X3_takeJoint_48 C0 (by decide) h _ _ _ hR (lv_sub hl [] rfl)
  · rw [if_neg c5] at h
    refine va_ldcS hx hb hown (hR.2.2.2.2.1 4 (by decide)) dX3_takeJoint_41 ?_
    refine lv_goto (tgt := 48) hx hb dX3_takeJoint_43 (by decide) ?_
    exact L_X3_takeJoint_48 C0 (by decide) h _ _ _ hR (lv_sub hl [] rfl)
def S_X3_takeJoint_30 (f : F3) (t0 : Nat) (s1 : Int32) (i1 : Nat) : Option (Int32 × F3) := if okB s1 then (mm_let (up f 3 t0 4 s1) fun f7 => S_X3_takeJoint_33 f7 i1) else none
set_option maxHeartbeats 4000000 in
set_option maxRecDepth 100000 in
theorem L_X3_takeJoint_30 {G : mmG} {p : Program} {e : Env} {s : State} {m : MethodId} {args : Array Value} {below : List Frame} {meth : Method} {c : Code} {f' : F3} {rv : Int32} (C0 : mmC yX3_takeJoint cX3_takeJoint 2 (some .boolean) p s m args meth c) {f : F3} {t0 : Nat} {s1 : Int32} {i1 : Nat} (ht0 : t0 < mm_cnt 3) (hi1 : i1 < mm_cnt 3) (h : S_X3_takeJoint_30 f t0 s1 i1 = some (rv, f')) (H : Heap) (locs : List Loc) (ls : Array Slot) (hR : mm_R G mm_NT f (GG f) s H locs) (hl : lv_has ls 2 [(0, .ref (ra G 4 0)), (1, .ref (ra G 3 i1))]) : W p G.1 e (mm_rm 5) s m args below meth c H locs 0 0 (MQ below (mm_Q G mm_NT (some (.int rv)) f' (GG f')) args s 0 0 (mm_A G)) (F0 m 30 ls [.int s1, .ref (ra G 3 t0)]) := by
  obtain ⟨hx, hb, hml, hr, hown, hts, hlocks⟩ := id C0
  rw [S_X3_takeJoint_30] at h
  obtain ⟨z6, h⟩ := mm_if h
  obtain ⟨f7, ef7, h⟩ := mm_lt h
  refine mm_put hx hb hts hown hR 3 t0 4 (by decide) (mm_vld 3 (by decide) t0 ht0) (x := s1) rfl rfl iX2 tyX2 tyX2_ok nmX2 (by decide) lk_42 rfl (okB_n z6) (okB_f z6) (Nat.le_of_ble_eq_true rfl) rfl dX3_takeJoint_30 (fun H locs hR => ?_)
  rw [← ef7] at hR
  exact L_X3_takeJoint_33 C0 hi1 h _ _ _ hR (lv_sub hl [0, 1] rfl)
def S_X3_takeJoint (f : F3) (i1 : Nat) : Option (Int32 × F3) := if (f 3 i1 5) = 1 then (mm_b2 (S_X4_at f (f 4 0 1)) fun r3 f2 => if r3 = 111 then (S_X3_takeJoint_30 f2 i1 1 i1) else (S_X3_takeJoint_30 f2 i1 0 i1)) else (S_X3_takeJoint_33 f i1)
set_option maxHeartbeats 4000000 in
set_option maxRecDepth 100000 in
theorem T_X3_takeJoint (G : mmG) {f f' : F3} {rv : Int32} {i1 : Nat} (hi1 : i1 < mm_cnt 3) (h : S_X3_takeJoint f i1 = some (rv, f')) : mmM G yX3_takeJoint cX3_takeJoint 2 (some .boolean) 5 [.ref (ra G 4 0), .ref (ra G 3 i1)] f (some (.int rv)) f' := by
  refine mm_start (by decide +kernel) (Nat.le_of_ble_eq_true rfl) ?_
  intro p e s m args below meth c ls C0 hR hl
  obtain ⟨hx, hb, hml, hr, hown, hts, hlocks⟩ := id C0
  have hl : lv_has ls 2 [(0, .ref (ra G 4 0)), (1, .ref (ra G 3 i1))] := hl
  rw [S_X3_takeJoint] at h
  refine lv_aload_n hx hb dX3_takeJoint_0 rfl (lv_at hl 1 rfl) ?_
  refine mm_get hx hb hts hown hR 3 i1 5 (mm_vld 3 (by decide) i1 hi1) (v := .int (f 3 i1 5)) rfl rfl iX2 (by decide) lk_41 rfl dX3_takeJoint_1 ?_
  refine lv_iconst (v := 1) hx hb dX3_takeJoint_4 (by decide) ?_
  refine lv_icmp_ne (tgt := 33) hx hb dX3_takeJoint_5 (by decide) (fun c1 => ?_) (fun c1 => ?_)
  · rw [if_neg c1] at h
    exact L_X3_takeJoint_33 C0 hi1 h _ _ _ hR (lv_sub hl [0, 1] rfl)
  · rw [if_pos c1] at h
    refine lv_aload_n hx hb dX3_takeJoint_8 rfl (lv_at hl 1 rfl) ?_
    refine lv_aload_n hx hb dX3_takeJoint_9 rfl (lv_at hl 0 rfl) ?_
    refine mm_get hx hb hts hown hR 4 0 0 vl_4 (v := .ref (ra G 5 0)) rfl rfl iX3 (by decide) lk_33 rfl dX3_takeJoint_10 ?_
    refine lv_aload_n hx hb dX3_takeJoint_13 rfl (lv_at hl 0 rfl) ?_
    refine mm_get hx hb hts hown hR 4 0 1 vl_4 (v := .int (f 4 0 1)) rfl rfl iX3 (by decide) lk_32 rfl dX3_takeJoint_14 ?_
    obtain ⟨r3, f2, ef2, h⟩ := mm_b2e h
    refine mm_callV (v := some (.int r3)) (f1 := f2) (d0 := 0) (rest := [.ref (ra G 3 i1)]) [.int (f 4 0 1)] C0 rfl hR 5 0 (T_X4_at G ef2) ws_X4_at lk_38 hd_X4_at ⟨by decide, by decide⟩ vl_5 rfl rfl rfl hl.1 rfl (Nat.le_of_ble_eq_true rfl) dX3_takeJoint_17 (fun H locs hR => ?_)
    refine W.eq (g2 := F0 m 20 ls (.int r3 :: .ref (ra G 3 i1) :: [])) rfl ?_
    refine lv_bipush (v := 111) hx hb dX3_takeJoint_20 (by decide) ?_
    refine lv_icmp_ne (tgt := 29) hx hb dX3_takeJoint_22 (by decide) (fun c4 => ?_) (fun c4 => ?_)
    · rw [if_neg c4] at h
      refine lv_iconst (v := 0) hx hb dX3_takeJoint_29 (by decide) ?_
      exact L_X3_takeJoint_30 C0 hi1 hi1 h _ _ _ hR (lv_sub hl [0, 1] rfl)
    · rw [if_pos c4] at h
      refine lv_iconst (v := 1) hx hb dX3_takeJoint_25 (by decide) ?_
      refine lv_goto (tgt := 30) hx hb dX3_takeJoint_26 (by decide) ?_
      exact L_X3_takeJoint_30 C0 hi1 hi1 h _ _ _ hR (lv_sub hl [0, 1] rfl)
def S_X3_takeKey (f : F3)  : Option (Int32 × F3) := mm_b2 (S_X4_at f (f 4 0 1)) fun r2 f1 => if r2 = 103 then (mm_b2 (S_X3_takeWord f1 1) fun r6 f5 => if r6 = 0 then (some ((-1), f5)) else (some (1, f5))) else if r2 = 115 then (mm_b2 (S_X3_takeWord f1 2) fun r10 f9 => if r10 = 0 then (some ((-1), f9)) else (some (2, f9))) else if r2 = 116 then (mm_b2 (S_X3_takeWord f1 0) fun r14 f13 => if r14 = 0 then (some ((-1), f13)) else (some (0, f13))) else (some ((-1), f1))
set_option maxHeartbeats 4000000 in
set_option maxRecDepth 100000 in
theorem T_X3_takeKey (G : mmG) {f f' : F3} {rv : Int32} (h : S_X3_takeKey f = some (rv, f')) : mmM G yX3_takeKey cX3_takeKey 1 (some .int) 5 [.ref (ra G 4 0)] f (some (.int rv)) f' := by
  refine mm_start (by decide +kernel) (Nat.le_of_ble_eq_true rfl) ?_
  intro p e s m args below meth c ls C0 hR hl
  obtain ⟨hx, hb, hml, hr, hown, hts, hlocks⟩ := id C0
  have hl : lv_has ls 1 [(0, .ref (ra G 4 0))] := hl
  rw [S_X3_takeKey] at h
  refine lv_aload_n hx hb dX3_takeKey_0 rfl (lv_at hl 0 rfl) ?_
  refine mm_get hx hb hts hown hR 4 0 0 vl_4 (v := .ref (ra G 5 0)) rfl rfl iX3 (by decide) lk_33 rfl dX3_takeKey_1 ?_
  refine lv_aload_n hx hb dX3_takeKey_4 rfl (lv_at hl 0 rfl) ?_
  refine mm_get hx hb hts hown hR 4 0 1 vl_4 (v := .int (f 4 0 1)) rfl rfl iX3 (by decide) lk_32 rfl dX3_takeKey_5 ?_
  obtain ⟨r2, f1, ef1, h⟩ := mm_b2e h
  refine mm_callV (v := some (.int r2)) (f1 := f1) (d0 := 0) (rest := []) [.int (f 4 0 1)] C0 rfl hR 5 0 (T_X4_at G ef1) ws_X4_at lk_38 hd_X4_at ⟨by decide, by decide⟩ vl_5 rfl rfl rfl hl.1 rfl (Nat.le_of_ble_eq_true rfl) dX3_takeKey_8 (fun H locs hR => ?_)
  refine W.eq (g2 := F0 m 11 ls (.int r2 :: [])) rfl ?_
  refine lv_topi (fun w3 ew3 => ?_)
  by_cases c4 : w3 = 103
  · rw [if_pos (ew3.symm.trans c4)] at h
    rw [c4]
    refine lv_lookup (off := 48) (tgt := 59) hx hb dX3_takeKey_11 (by decide +kernel) (by decide +kernel) (by decide) ?_
    refine lv_aload_n hx hb dX3_takeKey_59 rfl (lv_at hl 0 rfl) ?_
    refine va_ldcS hx hb hown (hR.2.2.2.2.1 1 (by decide)) dX3_takeKey_60 ?_
    obtain ⟨r6, f5, ef5, h⟩ := mm_b2e h
    refine mm_callV (v := some (.int r6)) (f1 := f5) (d0 := 4) (rest := []) [.ref (G.2.2.2.2.1 1)] C0 rfl hR 4 0 (T_X3_takeWord G (by decide) ef5) ws_X3_takeWord lk_40 hd_X3_takeWord ⟨by decide, by decide⟩ vl_4 rfl rfl rfl hl.1 rfl (Nat.le_of_ble_eq_true rfl) dX3_takeKey_62 (fun H locs hR => ?_)
    refine W.eq (g2 := F0 m 65 ls (.int r6 :: [])) rfl ?_
    refine lv_if_eq (tgt := 72) hx hb dX3_takeKey_65 (by decide) (fun c7 => ?_) (fun c7 => ?_)
    · rw [if_pos c7] at h
      refine lv_iconst (v := (-1)) hx hb dX3_takeKey_72 (by decide) ?_
      obtain ⟨rfl, rfl⟩ := mm_pr h
      exact mm_iret C0 hR dX3_takeKey_73
    · rw [if_neg c7] at h
      refine lv_iconst (v := 1) hx hb dX3_takeKey_68 (by decide) ?_
      refine lv_goto (tgt := 73) hx hb dX3_takeKey_69 (by decide) ?_
      obtain ⟨rfl, rfl⟩ := mm_pr h
      exact mm_iret C0 hR dX3_takeKey_73
  rw [if_neg (fun q => c4 (ew3.trans q))] at h
  by_cases c8 : w3 = 115
  · rw [if_pos (ew3.symm.trans c8)] at h
    rw [c8]
    refine lv_lookup (off := 63) (tgt := 74) hx hb dX3_takeKey_11 (by decide +kernel) (by decide +kernel) (by decide) ?_
    refine lv_aload_n hx hb dX3_takeKey_74 rfl (lv_at hl 0 rfl) ?_
    refine va_ldcS hx hb hown (hR.2.2.2.2.1 2 (by decide)) dX3_takeKey_75 ?_
    obtain ⟨r10, f9, ef9, h⟩ := mm_b2e h
    refine mm_callV (v := some (.int r10)) (f1 := f9) (d0 := 4) (rest := []) [.ref (G.2.2.2.2.1 2)] C0 rfl hR 4 0 (T_X3_takeWord G (by decide) ef9) ws_X3_takeWord lk_40 hd_X3_takeWord ⟨by decide, by decide⟩ vl_4 rfl rfl rfl hl.1 rfl (Nat.le_of_ble_eq_true rfl) dX3_takeKey_77 (fun H locs hR => ?_)
    refine W.eq (g2 := F0 m 80 ls (.int r10 :: [])) rfl ?_
    refine lv_if_eq (tgt := 87) hx hb dX3_takeKey_80 (by decide) (fun c11 => ?_) (fun c11 => ?_)
    · rw [if_pos c11] at h
      refine lv_iconst (v := (-1)) hx hb dX3_takeKey_87 (by decide) ?_
      obtain ⟨rfl, rfl⟩ := mm_pr h
      exact mm_iret C0 hR dX3_takeKey_88
    · rw [if_neg c11] at h
      refine lv_iconst (v := 2) hx hb dX3_takeKey_83 (by decide) ?_
      refine lv_goto (tgt := 88) hx hb dX3_takeKey_84 (by decide) ?_
      obtain ⟨rfl, rfl⟩ := mm_pr h
      exact mm_iret C0 hR dX3_takeKey_88
  rw [if_neg (fun q => c8 (ew3.trans q))] at h
  by_cases c12 : w3 = 116
  · rw [if_pos (ew3.symm.trans c12)] at h
    rw [c12]
    refine lv_lookup (off := 33) (tgt := 44) hx hb dX3_takeKey_11 (by decide +kernel) (by decide +kernel) (by decide) ?_
    refine lv_aload_n hx hb dX3_takeKey_44 rfl (lv_at hl 0 rfl) ?_
    refine va_ldcS hx hb hown (hR.2.2.2.2.1 0 (by decide)) dX3_takeKey_45 ?_
    obtain ⟨r14, f13, ef13, h⟩ := mm_b2e h
    refine mm_callV (v := some (.int r14)) (f1 := f13) (d0 := 4) (rest := []) [.ref (G.2.2.2.2.1 0)] C0 rfl hR 4 0 (T_X3_takeWord G (by decide) ef13) ws_X3_takeWord lk_40 hd_X3_takeWord ⟨by decide, by decide⟩ vl_4 rfl rfl rfl hl.1 rfl (Nat.le_of_ble_eq_true rfl) dX3_takeKey_47 (fun H locs hR => ?_)
    refine W.eq (g2 := F0 m 50 ls (.int r14 :: [])) rfl ?_
    refine lv_if_eq (tgt := 57) hx hb dX3_takeKey_50 (by decide) (fun c15 => ?_) (fun c15 => ?_)
    · rw [if_pos c15] at h
      refine lv_iconst (v := (-1)) hx hb dX3_takeKey_57 (by decide) ?_
      obtain ⟨rfl, rfl⟩ := mm_pr h
      exact mm_iret C0 hR dX3_takeKey_58
    · rw [if_neg c15] at h
      refine lv_iconst (v := 0) hx hb dX3_takeKey_53 (by decide) ?_
      refine lv_goto (tgt := 58) hx hb dX3_takeKey_54 (by decide) ?_
      obtain ⟨rfl, rfl⟩ := mm_pr h
      exact mm_iret C0 hR dX3_takeKey_58
  rw [if_neg (fun q => c12 (ew3.trans q))] at h
  refine lv_lookup (off := 78) (tgt := 89) hx hb dX3_takeKey_11 (by decide +kernel) (by show Op.lookupswitch.offset [(103, 48), (115, 63), (116, 33)] _ _ = _; rw [lv_osw c4 (by decide), lv_osw c8 (by decide), lv_osw c12 (by decide), Op.lookupswitch.offset_nil]) (by decide) ?_
  refine lv_iconst (v := (-1)) hx hb dX3_takeKey_89 (by decide) ?_
  obtain ⟨rfl, rfl⟩ := mm_pr h
  exact mm_iret C0 hR dX3_takeKey_90
def S_X3_takeNumber_51 (k4 : F3 → Int32 → Int32 → Option (Int32 × F3)) (f : F3) (s0 : Int32) (x2 : Int32) : Option (Int32 × F3) := mm_let (up f 4 0 1 ((f 4 0 1) + 1)) fun f7 => k4 f7 s0 (x2 + 1)
set_option maxHeartbeats 4000000 in
set_option maxRecDepth 100000 in
theorem L_X3_takeNumber_51 {G : mmG} {p : Program} {e : Env} {s : State} {m : MethodId} {args : Array Value} {below : List Frame} {meth : Method} {c : Code} {f' : F3} {rv : Int32} (C0 : mmC yX3_takeNumber cX3_takeNumber 4 (some .int) p s m args meth c) {k4 : F3 → Int32 → Int32 → Option (Int32 × F3)} (hk4 : ∀ (f : F3) (x1 : Int32) (x2 : Int32), k4 f x1 x2 = some (rv, f') → ∀ (H : Heap) (locs : List Loc) (ls : Array Slot), mm_R G mm_NT f (GG f) s H locs → lv_has ls 4 [(0, .ref (ra G 4 0)), (1, .int x1), (2, .int x2)] → W p G.1 e (mm_rm 1) s m args below meth c H locs 0 0 (MQ below (mm_Q G mm_NT (some (.int rv)) f' (GG f')) args s 0 0 (mm_A G)) (F0 m 4 ls [])) {f : F3} {s0 : Int32} {x2 : Int32} (h : S_X3_takeNumber_51 k4 f s0 x2 = some (rv, f')) (H : Heap) (locs : List Loc) (ls : Array Slot) (hR : mm_R G mm_NT f (GG f) s H locs) (hl : lv_has ls 4 [(0, .ref (ra G 4 0)), (2, .int x2)]) : W p G.1 e (mm_rm 1) s m args below meth c H locs 0 0 (MQ below (mm_Q G mm_NT (some (.int rv)) f' (GG f')) args s 0 0 (mm_A G)) (F0 m 51 ls [.int s0]) := by
  obtain ⟨hx, hb, hml, hr, hown, hts, hlocks⟩ := id C0
  rw [S_X3_takeNumber_51] at h
  refine lv_istore_n (lv' := [(1, .int s0), (0, .ref (ra G 4 0)), (2, .int x2)]) hx hb dX3_takeNumber_51 rfl hl (by decide) rfl (fun ls hl => ?_)
  refine lv_aload_n hx hb dX3_takeNumber_52 rfl (lv_at hl 1 rfl) ?_
  refine lv_dup hx hb dX3_takeNumber_53 rfl ?_
  refine mm_get hx hb hts hown hR 4 0 1 vl_4 (v := .int (f 4 0 1)) rfl rfl iX3 (by decide) lk_32 rfl dX3_takeNumber_54 ?_
  refine lv_iconst (v := 1) hx hb dX3_takeNumber_57 (by decide) ?_
  refine lv_iadd hx hb dX3_takeNumber_58 ?_
  obtain ⟨f7, ef7, h⟩ := mm_lt h
  refine mm_put hx hb hts hown hR 4 0 1 (by decide) vl_4 (x := (f 4 0 1) + 1) rfl rfl iX3 tyX3 tyX3_ok nmX3 (by decide) lk_32 rfl rfl rfl (Nat.le_of_ble_eq_true rfl) rfl dX3_takeNumber_59 (fun H locs hR => ?_)
  rw [← ef7] at hR
  refine lv_iinc (v := x2 + 1) (lv' := [(2, .int (x2 + 1)), (1, .int s0), (0, .ref (ra G 4 0))]) hx hb dX3_takeNumber_62 hl (k := 2) rfl rfl (by decide) rfl (fun ls hl => ?_)
  refine lv_goto (tgt := 4) hx hb dX3_takeNumber_65 (by decide) ?_
  exact hk4 _ s0 (x2 + 1)  h _ _ _ hR (lv_sub hl [2, 1, 0] rfl)
def S_X3_takeNumber_4 : Nat → F3 → Int32 → Int32 → Option (Int32 × F3)
  | 0, _, _, _ => none
  | n + 1, f, x1, x2 => if 4 ≤ x2 then (some (x1, f)) else (mm_b2 (S_X4_at f (f 4 0 1)) fun r3 f2 => if (r3 - 48) < 0 then (some (x1, f2)) else (if (r3 - 48) ≤ 9 then (if x1 = (-1) then (S_X3_takeNumber_51 (fun f9 x1_ x2_ => S_X3_takeNumber_4 n f9 x1_ x2_) f2 (r3 - 48) x2) else (S_X3_takeNumber_51 (fun f9 x1_ x2_ => S_X3_takeNumber_4 n f9 x1_ x2_) f2 ((x1 * 10) + (r3 - 48)) x2)) else (some (x1, f2))))
set_option maxHeartbeats 4000000 in
set_option maxRecDepth 100000 in
theorem L_X3_takeNumber_4 {G : mmG} {p : Program} {e : Env} {s : State} {m : MethodId} {args : Array Value} {below : List Frame} {meth : Method} {c : Code} {f' : F3} {rv : Int32} (C0 : mmC yX3_takeNumber cX3_takeNumber 4 (some .int) p s m args meth c) : ∀ (n : Nat) {f : F3} {x1 : Int32} {x2 : Int32} , S_X3_takeNumber_4 n f x1 x2 = some (rv, f') → ∀ (H : Heap) (locs : List Loc) (ls : Array Slot), mm_R G mm_NT f (GG f) s H locs → lv_has ls 4 [(0, .ref (ra G 4 0)), (1, .int x1), (2, .int x2)] → W p G.1 e (mm_rm 1) s m args below meth c H locs 0 0 (MQ below (mm_Q G mm_NT (some (.int rv)) f' (GG f')) args s 0 0 (mm_A G)) (F0 m 4 ls []) := by
  obtain ⟨hx, hb, hml, hr, hown, hts, hlocks⟩ := id C0
  intro n
  induction n with
  | zero =>
    intro f x1 x2  h H locs ls hR hl
    cases h
  | succ n ih =>
    intro f x1 x2  h H locs ls hR hl
    rw [S_X3_takeNumber_4] at h
    refine lv_iload_n hx hb dX3_takeNumber_4 rfl (lv_at hl 2 rfl) ?_
    refine lv_iconst (v := 4) hx hb dX3_takeNumber_5 (by decide) ?_
    refine lv_icmp_ge (tgt := 68) hx hb dX3_takeNumber_6 (by decide) (fun c1 => ?_) (fun c1 => ?_)
    · rw [if_pos c1] at h
      refine lv_iload_n hx hb dX3_takeNumber_68 rfl (lv_at hl 1 rfl) ?_
      obtain ⟨rfl, rfl⟩ := mm_pr h
      exact mm_iret C0 hR dX3_takeNumber_69
    · rw [if_neg c1] at h
      refine lv_aload_n hx hb dX3_takeNumber_9 rfl (lv_at hl 0 rfl) ?_
      refine mm_get hx hb hts hown hR 4 0 0 vl_4 (v := .ref (ra G 5 0)) rfl rfl iX3 (by decide) lk_33 rfl dX3_takeNumber_10 ?_
      refine lv_aload_n hx hb dX3_takeNumber_13 rfl (lv_at hl 0 rfl) ?_
      refine mm_get hx hb hts hown hR 4 0 1 vl_4 (v := .int (f 4 0 1)) rfl rfl iX3 (by decide) lk_32 rfl dX3_takeNumber_14 ?_
      obtain ⟨r3, f2, ef2, h⟩ := mm_b2e h
      refine mm_callV (v := some (.int r3)) (f1 := f2) (d0 := 0) (rest := []) [.int (f 4 0 1)] C0 rfl hR 5 0 (T_X4_at G ef2) ws_X4_at lk_38 hd_X4_at ⟨by decide, by decide⟩ vl_5 rfl rfl rfl hl.1 rfl (Nat.le_of_ble_eq_true rfl) dX3_takeNumber_17 (fun H locs hR => ?_)
      refine W.eq (g2 := F0 m 20 ls (.int r3 :: [])) rfl ?_
      refine lv_bipush (v := 48) hx hb dX3_takeNumber_20 (by decide) ?_
      refine lv_isub hx hb dX3_takeNumber_22 ?_
      refine lv_istore_n (lv' := [(3, .int (r3 - 48)), (0, .ref (ra G 4 0)), (1, .int x1), (2, .int x2)]) hx hb dX3_takeNumber_23 rfl hl (by decide) rfl (fun ls hl => ?_)
      refine lv_iload_n hx hb dX3_takeNumber_24 rfl (lv_at hl 0 rfl) ?_
      refine lv_if_lt (tgt := 34) hx hb dX3_takeNumber_25 (by decide) (fun c4 => ?_) (fun c4 => ?_)
      · rw [if_pos c4] at h
        refine lv_iload_n hx hb dX3_takeNumber_34 rfl (lv_at hl 2 rfl) ?_
        obtain ⟨rfl, rfl⟩ := mm_pr h
        exact mm_iret C0 hR dX3_takeNumber_35
      · rw [if_neg c4] at h
        refine lv_iload_n hx hb dX3_takeNumber_28 rfl (lv_at hl 0 rfl) ?_
        refine lv_bipush (v := 9) hx hb dX3_takeNumber_29 (by decide) ?_
        refine lv_icmp_le (tgt := 36) hx hb dX3_takeNumber_31 (by decide) (fun c5 => ?_) (fun c5 => ?_)
        · rw [if_pos c5] at h
          refine lv_iload_n hx hb dX3_takeNumber_36 rfl (lv_at hl 2 rfl) ?_
          refine lv_iconst (v := (-1)) hx hb dX3_takeNumber_37 (by decide) ?_
          refine lv_icmp_ne (tgt := 45) hx hb dX3_takeNumber_38 (by decide) (fun c6 => ?_) (fun c6 => ?_)
          · rw [if_neg c6] at h
            refine lv_iload_n hx hb dX3_takeNumber_45 rfl (lv_at hl 2 rfl) ?_
            refine lv_bipush (v := 10) hx hb dX3_takeNumber_46 (by decide) ?_
            refine lv_imul hx hb dX3_takeNumber_48 ?_
            refine lv_iload_n hx hb dX3_takeNumber_49 rfl (lv_at hl 0 rfl) ?_
            refine lv_iadd hx hb dX3_takeNumber_50 ?_
            exact L_X3_takeNumber_51 C0 (fun _ _ _ h9 H9 locs9 ls9 hR9 hl9 => ih h9 _ _ _ hR9 hl9) h _ _ _ hR (lv_sub hl [1, 3] rfl)
          · rw [if_pos c6] at h
            refine lv_iload_n hx hb dX3_takeNumber_41 rfl (lv_at hl 0 rfl) ?_
            refine lv_goto (tgt := 51) hx hb dX3_takeNumber_42 (by decide) ?_
            exact L_X3_takeNumber_51 C0 (fun _ _ _ h9 H9 locs9 ls9 hR9 hl9 => ih h9 _ _ _ hR9 hl9) h _ _ _ hR (lv_sub hl [1, 3] rfl)
        · rw [if_neg c5] at h
          refine lv_iload_n hx hb dX3_takeNumber_34 rfl (lv_at hl 2 rfl) ?_
          obtain ⟨rfl, rfl⟩ := mm_pr h
          exact mm_iret C0 hR dX3_takeNumber_35
def S_X3_takeNumber (f : F3)  : Option (Int32 × F3) := S_X3_takeNumber_4 FU f (-1) 0
set_option maxHeartbeats 4000000 in
set_option maxRecDepth 100000 in
theorem T_X3_takeNumber (G : mmG) {f f' : F3} {rv : Int32} (h : S_X3_takeNumber f = some (rv, f')) : mmM G yX3_takeNumber cX3_takeNumber 4 (some .int) 1 [.ref (ra G 4 0)] f (some (.int rv)) f' := by
  refine mm_start (by decide +kernel) (Nat.le_of_ble_eq_true rfl) ?_
  intro p e s m args below meth c ls C0 hR hl
  obtain ⟨hx, hb, hml, hr, hown, hts, hlocks⟩ := id C0
  have hl : lv_has ls 4 [(0, .ref (ra G 4 0))] := hl
  rw [S_X3_takeNumber] at h
  refine lv_iconst (v := (-1)) hx hb dX3_takeNumber_0 (by decide) ?_
  refine lv_istore_n (lv' := [(1, .int (-1)), (0, .ref (ra G 4 0))]) hx hb dX3_takeNumber_1 rfl hl (by decide) rfl (fun ls hl => ?_)
  refine lv_iconst (v := 0) hx hb dX3_takeNumber_2 (by decide) ?_
  refine lv_istore_n (lv' := [(2, .int 0), (1, .int (-1)), (0, .ref (ra G 4 0))]) hx hb dX3_takeNumber_3 rfl hl (by decide) rfl (fun ls hl => ?_)
  exact L_X3_takeNumber_4 C0 _ h _ _ _ hR (lv_sub hl [2, 1, 0] rfl)
