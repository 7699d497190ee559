def S_X7_isBorne_47 (f : F3)  : Option (Int32 × F3) := some (1, f)
set_option maxHeartbeats 4000000 in
set_option maxRecDepth 100000 in
theorem L_X7_isBorne_47 {G : mmG} {p : Program} {e : Env} {s : State} {m : MethodId} {args : Array Value} {below : List Frame} {meth : Method} {c : Code} {f' : F3} {rv : Int32} (C0 : mmC yX7_isBorne cX7_isBorne 3 (some .boolean) p s m args meth c) {f : F3} (h : S_X7_isBorne_47 f = some (rv, f')) (H : Heap) (locs : List Loc) (ls : Array Slot) (hR : mm_R G mm_NT f (GG f) s H locs) (hl : lv_has ls 3 []) : W p G.1 e (mm_rm 0) s m args below meth c H locs 0 0 (MQ below (mm_Q G mm_NT (some (.int rv)) f' (GG f')) args s 0 0 (mm_A G)) (F0 m 47 ls []) := by
  obtain ⟨hx, hb, hml, hr, hown, hts, hlocks⟩ := id C0
  rw [S_X7_isBorne_47] at h
  refine lv_iconst (v := 1) hx hb dX7_isBorne_47 (by decide) ?_
  refine lv_goto (tgt := 52) hx hb dX7_isBorne_48 (by decide) ?_
  obtain ⟨rfl, rfl⟩ := mm_pr h
  exact mm_zret C0 rfl hR dX7_isBorne_52
def S_X7_isBorne_44 (f : F3) (s0 : Int32) (s1 : Int32) : Option (Int32 × F3) := if s0 < s1 then (some (0, f)) else (S_X7_isBorne_47 f )
set_option maxHeartbeats 4000000 in
set_option maxRecDepth 100000 in
theorem L_X7_isBorne_44 {G : mmG} {p : Program} {e : Env} {s : State} {m : MethodId} {args : Array Value} {below : List Frame} {meth : Method} {c : Code} {f' : F3} {rv : Int32} (C0 : mmC yX7_isBorne cX7_isBorne 3 (some .boolean) p s m args meth c) {f : F3} {s0 : Int32} {s1 : Int32} (h : S_X7_isBorne_44 f s0 s1 = some (rv, f')) (H : Heap) (locs : List Loc) (ls : Array Slot) (hR : mm_R G mm_NT f (GG f) s H locs) (hl : lv_has ls 3 []) : W p G.1 e (mm_rm 0) s m args below meth c H locs 0 0 (MQ below (mm_Q G mm_NT (some (.int rv)) f' (GG f')) args s 0 0 (mm_A G)) (F0 m 44 ls [.int s1, .int s0]) := by
  obtain ⟨hx, hb, hml, hr, hown, hts, hlocks⟩ := id C0
  rw [S_X7_isBorne_44] at h
  refine lv_icmp_lt (tgt := 51) hx hb dX7_isBorne_44 (by decide) (fun c4 => ?_) (fun c4 => ?_)
  · rw [if_pos c4] at h
    refine lv_iconst (v := 0) hx hb dX7_isBorne_51 (by decide) ?_
    obtain ⟨rfl, rfl⟩ := mm_pr h
    exact mm_zret C0 rfl hR dX7_isBorne_52
  · rw [if_neg c4] at h
    exact L_X7_isBorne_47 C0 h _ _ _ hR (lv_sub hl [] rfl)
def S_X7_isBorne (f : F3) (x1 : Int32) (x2 : Int32) : Option (Int32 × F3) := if okI x1 10 then (if (f 30 0 x1.toNatClampNeg) = 4 then (S_X7_isBorne_47 f ) else (if (f 30 0 x1.toNatClampNeg) = 3 then (S_X7_isBorne_44 f (((f 31 0 x1.toNatClampNeg) * (f 31 0 x1.toNatClampNeg)) / 10000) (2 * x2)) else (S_X7_isBorne_44 f (((f 31 0 x1.toNatClampNeg) * (f 31 0 x1.toNatClampNeg)) / 10000) x2))) else none
set_option maxHeartbeats 4000000 in
set_option maxRecDepth 100000 in
theorem T_X7_isBorne (G : mmG) {f f' : F3} {rv : Int32} {x1 : Int32} {x2 : Int32} (h : S_X7_isBorne f x1 x2 = some (rv, f')) : mmM G yX7_isBorne cX7_isBorne 3 (some .boolean) 0 [.ref (ra G 20 0), .int x1, .int x2] f (some (.int rv)) f' := by
  refine mm_start (by decide +kernel) (Nat.le_of_ble_eq_true rfl) ?_
  intro p e s m args below meth c ls C0 hR hl
  obtain ⟨hx, hb, hml, hr, hown, hts, hlocks⟩ := id C0
  have hl : lv_has ls 3 [(0, .ref (ra G 20 0)), (1, .int x1), (2, .int x2)] := hl
  rw [S_X7_isBorne] at h
  refine lv_aload_n hx hb dX7_isBorne_0 rfl (lv_at hl 0 rfl) ?_
  refine mm_get hx hb hts hown hR 20 0 3 vl_20 (v := .ref (ra G 30 0)) rfl rfl iX7 (by decide) lk_140 rfl dX7_isBorne_1 ?_
  refine lv_iload_n hx hb dX7_isBorne_4 rfl (lv_at hl 1 rfl) ?_
  obtain ⟨z1, h⟩ := mm_if h
  refine mm_ild hx hb hR 30 0 vl_30 (L := 10) rfl (okI_in z1) dX7_isBorne_5 ?_
  refine lv_iconst (v := 4) hx hb dX7_isBorne_6 (by decide) ?_
  refine lv_icmp_eq (tgt := 47) hx hb dX7_isBorne_7 (by decide) (fun c2 => ?_) (fun c2 => ?_)
  · rw [if_pos c2] at h
    exact L_X7_isBorne_47 C0 h _ _ _ hR (lv_sub hl [] rfl)
  · rw [if_neg c2] at h
    refine lv_aload_n hx hb dX7_isBorne_10 rfl (lv_at hl 0 rfl) ?_
    refine mm_get hx hb hts hown hR 20 0 4 vl_20 (v := .ref (ra G 31 0)) rfl rfl iX7 (by decide) lk_141 rfl dX7_isBorne_11 ?_
    refine lv_iload_n hx hb dX7_isBorne_14 rfl (lv_at hl 1 rfl) ?_
    refine mm_ild hx hb hR 31 0 vl_31 (L := 10) rfl (okI_in z1) dX7_isBorne_15 ?_
    refine lv_aload_n hx hb dX7_isBorne_16 rfl (lv_at hl 0 rfl) ?_
    refine mm_get hx hb hts hown hR 20 0 4 vl_20 (v := .ref (ra G 31 0)) rfl rfl iX7 (by decide) lk_141 rfl dX7_isBorne_17 ?_
    refine lv_iload_n hx hb dX7_isBorne_20 rfl (lv_at hl 1 rfl) ?_
    refine mm_ild hx hb hR 31 0 vl_31 (L := 10) rfl (okI_in z1) dX7_isBorne_21 ?_
    refine lv_imul hx hb dX7_isBorne_22 ?_
    refine lv_sipush (v := 10000) hx hb dX7_isBorne_23 (by decide) ?_
    refine lv_idiv hx hb dX7_isBorne_26 (by decide) ?_
    refine lv_aload_n hx hb dX7_isBorne_27 rfl (lv_at hl 0 rfl) ?_
    refine mm_get hx hb hts hown hR 20 0 3 vl_20 (v := .ref (ra G 30 0)) rfl rfl iX7 (by decide) lk_140 rfl dX7_isBorne_28 ?_
    refine lv_iload_n hx hb dX7_isBorne_31 rfl (lv_at hl 1 rfl) ?_
    refine mm_ild hx hb hR 30 0 vl_30 (L := 10) rfl (okI_in z1) dX7_isBorne_32 ?_
    refine lv_iconst (v := 3) hx hb dX7_isBorne_33 (by decide) ?_
    refine lv_icmp_ne (tgt := 43) hx hb dX7_isBorne_34 (by decide) (fun c3 => ?_) (fun c3 => ?_)
    · rw [if_neg c3] at h
      refine lv_iload_n hx hb dX7_isBorne_43 rfl (lv_at hl 2 rfl) ?_
      exact L_X7_isBorne_44 C0 h _ _ _ hR (lv_sub hl [] rfl)
    · rw [if_pos c3] at h
      refine lv_iconst (v := 2) hx hb dX7_isBorne_37 (by decide) ?_
      refine lv_iload_n hx hb dX7_isBorne_38 rfl (lv_at hl 2 rfl) ?_
      refine lv_imul hx hb dX7_isBorne_39 ?_
      refine lv_goto (tgt := 44) hx hb dX7_isBorne_40 (by decide) ?_
      exact L_X7_isBorne_44 C0 h _ _ _ hR (lv_sub hl [] rfl)
def S_X7_allBear_2 : Nat → F3 → Int32 → Int32 → Option (Int32 × F3)
  | 0, _, _, _ => none
  | n + 1, f, x1, x2 => if (f 20 0 2) ≤ x2 then (some (1, f)) else (mm_b2 (S_X7_isBorne f x2 x1) fun r3 f2 => if r3 = 0 then (some (0, f2)) else (S_X7_allBear_2 n f2 x1 (x2 + 1)))
set_option maxHeartbeats 4000000 in
set_option maxRecDepth 100000 in
theorem L_X7_allBear_2 {G : mmG} {p : Program} {e : Env} {s : State} {m : MethodId} {args : Array Value} {below : List Frame} {meth : Method} {c : Code} {f' : F3} {rv : Int32} (C0 : mmC yX7_allBear cX7_allBear 3 (some .boolean) p s m args meth c) : ∀ (n : Nat) {f : F3} {x1 : Int32} {x2 : Int32} , S_X7_allBear_2 n f x1 x2 = some (rv, f') → ∀ (H : Heap) (locs : List Loc) (ls : Array Slot), mm_R G mm_NT f (GG f) s H locs → lv_has ls 3 [(0, .ref (ra G 20 0)), (1, .int x1), (2, .int x2)] → W p G.1 e (mm_rm 1) s m args below meth c H locs 0 0 (MQ below (mm_Q G mm_NT (some (.int rv)) f' (GG f')) args s 0 0 (mm_A G)) (F0 m 2 ls []) := by
  obtain ⟨hx, hb, hml, hr, hown, hts, hlocks⟩ := id C0
  intro n
  induction n with
  | zero =>
    intro f x1 x2  h H locs ls hR hl
    cases h
  | succ n ih =>
    intro f x1 x2  h H locs ls hR hl
    rw [S_X7_allBear_2] at h
    refine lv_iload_n hx hb dX7_allBear_2 rfl (lv_at hl 2 rfl) ?_
    refine lv_aload_n hx hb dX7_allBear_3 rfl (lv_at hl 0 rfl) ?_
    refine mm_get hx hb hts hown hR 20 0 2 vl_20 (v := .int (f 20 0 2)) rfl rfl iX7 (by decide) lk_142 rfl dX7_allBear_4 ?_
    refine lv_icmp_ge (tgt := 27) hx hb dX7_allBear_7 (by decide) (fun c1 => ?_) (fun c1 => ?_)
    · rw [if_pos c1] at h
      refine lv_iconst (v := 1) hx hb dX7_allBear_27 (by decide) ?_
      obtain ⟨rfl, rfl⟩ := mm_pr h
      exact mm_zret C0 rfl hR dX7_allBear_28
    · rw [if_neg c1] at h
      refine lv_aload_n hx hb dX7_allBear_10 rfl (lv_at hl 0 rfl) ?_
      refine lv_iload_n hx hb dX7_allBear_11 rfl (lv_at hl 2 rfl) ?_
      refine lv_iload_n hx hb dX7_allBear_12 rfl (lv_at hl 1 rfl) ?_
      obtain ⟨r3, f2, ef2, h⟩ := mm_b2e h
      refine mm_callV (v := some (.int r3)) (f1 := f2) (d0 := 0) (rest := []) [.int x2, .int x1] C0 rfl hR 20 0 (T_X7_isBorne G ef2) ws_X7_isBorne lk_143 hd_X7_isBorne ⟨by decide, by decide⟩ vl_20 rfl rfl rfl hl.1 rfl (Nat.le_of_ble_eq_true rfl) dX7_allBear_13 (fun H locs hR => ?_)
      refine W.eq (g2 := F0 m 16 ls (.int r3 :: [])) rfl ?_
      refine lv_if_ne (tgt := 21) hx hb dX7_allBear_16 (by decide) (fun c4 => ?_) (fun c4 => ?_)
      · rw [if_neg c4] at h
        refine lv_iinc (v := x2 + 1) (lv' := [(2, .int (x2 + 1)), (0, .ref (ra G 20 0)), (1, .int x1)]) hx hb dX7_allBear_21 hl (k := 2) rfl rfl (by decide) rfl (fun ls hl => ?_)
        refine lv_goto (tgt := 2) hx hb dX7_allBear_24 (by decide) ?_
        exact ih  h _ _ _ hR (lv_sub hl [1, 2, 0] rfl)
      · rw [if_pos c4] at h
        refine lv_iconst (v := 0) hx hb dX7_allBear_19 (by decide) ?_
        obtain ⟨rfl, rfl⟩ := mm_pr h
        exact mm_zret C0 rfl hR dX7_allBear_20
def S_X7_allBear (f : F3) (x1 : Int32) : Option (Int32 × F3) := S_X7_allBear_2 FU f x1 0
set_option maxHeartbeats 4000000 in
set_option maxRecDepth 100000 in
theorem T_X7_allBear (G : mmG) {f f' : F3} {rv : Int32} {x1 : Int32} (h : S_X7_allBear f x1 = some (rv, f')) : mmM G yX7_allBear cX7_allBear 3 (some .boolean) 1 [.ref (ra G 20 0), .int x1] f (some (.int rv)) f' := by
  refine mm_start (by decide +kernel) (Nat.le_of_ble_eq_true rfl) ?_
  intro p e s m args below meth c ls C0 hR hl
  obtain ⟨hx, hb, hml, hr, hown, hts, hlocks⟩ := id C0
  have hl : lv_has ls 3 [(0, .ref (ra G 20 0)), (1, .int x1)] := hl
  rw [S_X7_allBear] at h
  refine lv_iconst (v := 0) hx hb dX7_allBear_0 (by decide) ?_
  refine lv_istore_n (lv' := [(2, .int 0), (0, .ref (ra G 20 0)), (1, .int x1)]) hx hb dX7_allBear_1 rfl hl (by decide) rfl (fun ls hl => ?_)
  exact L_X7_allBear_2 C0 _ h _ _ _ hR (lv_sub hl [1, 2, 0] rfl)
def S_X7_in (f : F3) (x0 : Int32) (x1 : Int32) (x2 : Int32) : Option (Int32 × F3) := if x0 < x1 then (some (0, f)) else (if x2 < x0 then (some (0, f)) else (some (1, f)))
set_option maxHeartbeats 4000000 in
set_option maxRecDepth 100000 in
theorem T_X7_in (G : mmG) {f f' : F3} {rv : Int32} {x0 : Int32} {x1 : Int32} {x2 : Int32} (h : S_X7_in f x0 x1 x2 = some (rv, f')) : mmM G yX7_in cX7_in 3 (some .boolean) 0 [.int x0, .int x1, .int x2] f (some (.int rv)) f' := by
  refine mm_start (by decide +kernel) (Nat.le_of_ble_eq_true rfl) ?_
  intro p e s m args below meth c ls C0 hR hl
  obtain ⟨hx, hb, hml, hr, hown, hts, hlocks⟩ := id C0
  have hl : lv_has ls 3 [(0, .int x0), (1, .int x1), (2, .int x2)] := hl
  rw [S_X7_in] at h
  refine lv_iload_n hx hb dX7_in_0 rfl (lv_at hl 0 rfl) ?_
  refine lv_iload_n hx hb dX7_in_1 rfl (lv_at hl 1 rfl) ?_
  refine lv_icmp_lt (tgt := 14) hx hb dX7_in_2 (by decide) (fun c1 => ?_) (fun c1 => ?_)
  · rw [if_pos c1] at h
    refine lv_iconst (v := 0) hx hb dX7_in_14 (by decide) ?_
    obtain ⟨rfl, rfl⟩ := mm_pr h
    exact mm_zret C0 rfl hR dX7_in_15
  · rw [if_neg c1] at h
    refine lv_iload_n hx hb dX7_in_5 rfl (lv_at hl 0 rfl) ?_
    refine lv_iload_n hx hb dX7_in_6 rfl (lv_at hl 2 rfl) ?_
    refine lv_icmp_gt (tgt := 14) hx hb dX7_in_7 (by decide) (fun c2 => ?_) (fun c2 => ?_)
    · rw [if_pos c2] at h
      refine lv_iconst (v := 0) hx hb dX7_in_14 (by decide) ?_
      obtain ⟨rfl, rfl⟩ := mm_pr h
      exact mm_zret C0 rfl hR dX7_in_15
    · rw [if_neg c2] at h
      refine lv_iconst (v := 1) hx hb dX7_in_10 (by decide) ?_
      refine lv_goto (tgt := 15) hx hb dX7_in_11 (by decide) ?_
      obtain ⟨rfl, rfl⟩ := mm_pr h
      exact mm_zret C0 rfl hR dX7_in_15
def S_X7_isCell (f : F3) (x1 : Int32) : Option (Int32 × F3) := mm_b2 (S_X7_in f x1 0 ((f 20 0 2) - 1)) fun r2 f1 => if okB r2 then (some (r2, f1)) else none
set_option maxHeartbeats 4000000 in
set_option maxRecDepth 100000 in
theorem T_X7_isCell (G : mmG) {f f' : F3} {rv : Int32} {x1 : Int32} (h : S_X7_isCell f x1 = some (rv, f')) : mmM G yX7_isCell cX7_isCell 2 (some .boolean) 1 [.ref (ra G 20 0), .int x1] f (some (.int rv)) f' := by
  refine mm_start (by decide +kernel) (Nat.le_of_ble_eq_true rfl) ?_
  intro p e s m args below meth c ls C0 hR hl
  obtain ⟨hx, hb, hml, hr, hown, hts, hlocks⟩ := id C0
  have hl : lv_has ls 2 [(0, .ref (ra G 20 0)), (1, .int x1)] := hl
  rw [S_X7_isCell] at h
  refine lv_iload_n hx hb dX7_isCell_0 rfl (lv_at hl 1 rfl) ?_
  refine lv_iconst (v := 0) hx hb dX7_isCell_1 (by decide) ?_
  refine lv_aload_n hx hb dX7_isCell_2 rfl (lv_at hl 0 rfl) ?_
  refine mm_get hx hb hts hown hR 20 0 2 vl_20 (v := .int (f 20 0 2)) rfl rfl iX7 (by decide) lk_142 rfl dX7_isCell_3 ?_
  refine lv_iconst (v := 1) hx hb dX7_isCell_6 (by decide) ?_
  refine lv_isub hx hb dX7_isCell_7 ?_
  obtain ⟨r2, f1, ef1, h⟩ := mm_b2e h
  refine mm_callS (v := some (.int r2)) (f1 := f1) (d0 := 0) (rest := []) [.int x1, .int 0, .int ((f 20 0 2) - 1)] C0 rfl hR (T_X7_in G ef1) ws_X7_in lk_144 hd_X7_in ⟨by decide, by decide⟩ hl.1 rfl (Nat.le_of_ble_eq_true rfl) dX7_isCell_8 (fun H locs hR => ?_)
  refine W.eq (g2 := F0 m 11 ls (.int r2 :: [])) rfl ?_
  obtain ⟨z3, h⟩ := mm_if h
  obtain ⟨rfl, rfl⟩ := mm_pr h
  exact mm_zret C0 (okB_n z3) hR dX7_isCell_11
def S_X7_refuse (f : F3) (x1 : Int32) : Option (Int32 × F3) := if okI (-x1) 9 then (mm_let (up f 21 0 (-x1).toNatClampNeg ((f 21 0 (-x1).toNatClampNeg) + 1)) fun f2 => some (x1, f2)) else none
set_option maxHeartbeats 4000000 in
set_option maxRecDepth 100000 in
theorem T_X7_refuse (G : mmG) {f f' : F3} {rv : Int32} {x1 : Int32} (h : S_X7_refuse f x1 = some (rv, f')) : mmM G yX7_refuse cX7_refuse 2 (some .int) 0 [.ref (ra G 20 0), .int x1] f (some (.int rv)) f' := by
  refine mm_start (by decide +kernel) (Nat.le_of_ble_eq_true rfl) ?_
  intro p e s m args below meth c ls C0 hR hl
  obtain ⟨hx, hb, hml, hr, hown, hts, hlocks⟩ := id C0
  have hl : lv_has ls 2 [(0, .ref (ra G 20 0)), (1, .int x1)] := hl
  rw [S_X7_refuse] at h
  refine lv_aload_n hx hb dX7_refuse_0 rfl (lv_at hl 0 rfl) ?_
  refine mm_get hx hb hts hown hR 20 0 0 vl_20 (v := .ref (ra G 21 0)) rfl rfl iX7 (by decide) lk_145 rfl dX7_refuse_1 ?_
  refine lv_iload_n hx hb dX7_refuse_4 rfl (lv_at hl 1 rfl) ?_
  refine lv_ineg hx hb dX7_refuse_5 ?_
  refine lv_dup2_11 hx hb dX7_refuse_6 rfl rfl ?_
  obtain ⟨z1, h⟩ := mm_if h
  refine mm_ild hx hb hR 21 0 vl_21 (L := 9) rfl (okI_in z1) dX7_refuse_7 ?_
  refine lv_iconst (v := 1) hx hb dX7_refuse_8 (by decide) ?_
  refine lv_iadd hx hb dX7_refuse_9 ?_
  obtain ⟨f2, ef2, h⟩ := mm_lt h
  refine mm_ist hx hb hR 21 0 (by decide) vl_21 (L := 9) (j := -x1) (x := (f 21 0 (-x1).toNatClampNeg) + 1) (fun _ => rfl) (okI_in z1) dX7_refuse_10 (fun H locs hR => ?_)
  rw [← ef2] at hR
  refine lv_iload_n hx hb dX7_refuse_11 rfl (lv_at hl 1 rfl) ?_
  obtain ⟨rfl, rfl⟩ := mm_pr h
  exact mm_iret C0 hR dX7_refuse_12
def S_X7_bears (f : F3) (x1 : Int32) (x2 : Int32) : Option (Int32 × F3) := mm_b2 (S_X7_isCell f x1) fun r2 f1 => if r2 = 0 then (mm_b2 (S_X7_refuse f1 (-3)) fun r13 f12 => some (r13, f12)) else (mm_b2 (S_X7_in f1 x2 1 99) fun r5 f4 => if r5 = 0 then (mm_b2 (S_X7_refuse f4 (-7)) fun r11 f10 => some (r11, f10)) else (mm_b2 (S_X7_isBorne f4 x1 x2) fun r8 f7 => if r8 = 0 then (some (0, f7)) else (some (1, f7))))
set_option maxHeartbeats 4000000 in
set_option maxRecDepth 100000 in
theorem T_X7_bears (G : mmG) {f f' : F3} {rv : Int32} {x1 : Int32} {x2 : Int32} (h : S_X7_bears f x1 x2 = some (rv, f')) : mmM G yX7_bears cX7_bears 3 (some .int) 2 [.ref (ra G 20 0), .int x1, .int x2] f (some (.int rv)) f' := by
  refine mm_start (by decide +kernel) (Nat.le_of_ble_eq_true rfl) ?_
  intro p e s m args below meth c ls C0 hR hl
  obtain ⟨hx, hb, hml, hr, hown, hts, hlocks⟩ := id C0
  have hl : lv_has ls 3 [(0, .ref (ra G 20 0)), (1, .int x1), (2, .int x2)] := hl
  rw [S_X7_bears] at h
  refine lv_aload_n hx hb dX7_bears_0 rfl (lv_at hl 0 rfl) ?_
  refine lv_iload_n hx hb dX7_bears_1 rfl (lv_at hl 1 rfl) ?_
  obtain ⟨r2, f1, ef1, h⟩ := mm_b2e h
  refine mm_callV (v := some (.int r2)) (f1 := f1) (d0 := 1) (rest := []) [.int x1] C0 rfl hR 20 0 (T_X7_isCell G ef1) ws_X7_isCell lk_146 hd_X7_isCell ⟨by decide, by decide⟩ vl_20 rfl rfl rfl hl.1 rfl (Nat.le_of_ble_eq_true rfl) dX7_bears_2 (fun H locs hR => ?_)
  refine W.eq (g2 := F0 m 5 ls (.int r2 :: [])) rfl ?_
  refine lv_if_ne (tgt := 15) hx hb dX7_bears_5 (by decide) (fun c3 => ?_) (fun c3 => ?_)
  · rw [if_neg c3] at h
    refine lv_iload_n hx hb dX7_bears_15 rfl (lv_at hl 2 rfl) ?_
    refine lv_iconst (v := 1) hx hb dX7_bears_16 (by decide) ?_
    refine lv_bipush (v := 99) hx hb dX7_bears_17 (by decide) ?_
    obtain ⟨r5, f4, ef4, h⟩ := mm_b2e h
    refine mm_callS (v := some (.int r5)) (f1 := f4) (d0 := 0) (rest := []) [.int x2, .int 1, .int 99] C0 rfl hR (T_X7_in G ef4) ws_X7_in lk_144 hd_X7_in ⟨by decide, by decide⟩ hl.1 rfl (Nat.le_of_ble_eq_true rfl) dX7_bears_19 (fun H locs hR => ?_)
    refine W.eq (g2 := F0 m 22 ls (.int r5 :: [])) rfl ?_
    refine lv_if_ne (tgt := 32) hx hb dX7_bears_22 (by decide) (fun c6 => ?_) (fun c6 => ?_)
    · rw [if_neg c6] at h
      refine lv_aload_n hx hb dX7_bears_32 rfl (lv_at hl 0 rfl) ?_
      refine lv_iload_n hx hb dX7_bears_33 rfl (lv_at hl 1 rfl) ?_
      refine lv_iload_n hx hb dX7_bears_34 rfl (lv_at hl 2 rfl) ?_
      obtain ⟨r8, f7, ef7, h⟩ := mm_b2e h
      refine mm_callV (v := some (.int r8)) (f1 := f7) (d0 := 0) (rest := []) [.int x1, .int x2] C0 rfl hR 20 0 (T_X7_isBorne G ef7) ws_X7_isBorne lk_143 hd_X7_isBorne ⟨by decide, by decide⟩ vl_20 rfl rfl rfl hl.1 rfl (Nat.le_of_ble_eq_true rfl) dX7_bears_35 (fun H locs hR => ?_)
      refine W.eq (g2 := F0 m 38 ls (.int r8 :: [])) rfl ?_
      refine lv_if_eq (tgt := 45) hx hb dX7_bears_38 (by decide) (fun c9 => ?_) (fun c9 => ?_)
      · rw [if_pos c9] at h
        refine lv_iconst (v := 0) hx hb dX7_bears_45 (by decide) ?_
        obtain ⟨rfl, rfl⟩ := mm_pr h
        exact mm_iret C0 hR dX7_bears_46
      · rw [if_neg c9] at h
        refine lv_iconst (v := 1) hx hb dX7_bears_41 (by decide) ?_
        refine lv_goto (tgt := 46) hx hb dX7_bears_42 (by decide) ?_
        obtain ⟨rfl, rfl⟩ := mm_pr h
        exact mm_iret C0 hR dX7_bears_46
    · rw [if_pos c6] at h
      refine lv_aload_n hx hb dX7_bears_25 rfl (lv_at hl 0 rfl) ?_
      refine lv_bipush (v := (-7)) hx hb dX7_bears_26 (by decide) ?_
      obtain ⟨r11, f10, ef10, h⟩ := mm_b2e h
      refine mm_callV (v := some (.int r11)) (f1 := f10) (d0 := 0) (rest := []) [.int (-7)] C0 rfl hR 20 0 (T_X7_refuse G ef10) ws_X7_refuse lk_147 hd_X7_refuse ⟨by decide, by decide⟩ vl_20 rfl rfl rfl hl.1 rfl (Nat.le_of_ble_eq_true rfl) dX7_bears_28 (fun H locs hR => ?_)
      refine W.eq (g2 := F0 m 31 ls (.int r11 :: [])) rfl ?_
      obtain ⟨rfl, rfl⟩ := mm_pr h
      exact mm_iret C0 hR dX7_bears_31
  · rw [if_pos c3] at h
    refine lv_aload_n hx hb dX7_bears_8 rfl (lv_at hl 0 rfl) ?_
    refine lv_bipush (v := (-3)) hx hb dX7_bears_9 (by decide) ?_
    obtain ⟨r13, f12, ef12, h⟩ := mm_b2e h
    refine mm_callV (v := some (.int r13)) (f1 := f12) (d0 := 0) (rest := []) [.int (-3)] C0 rfl hR 20 0 (T_X7_refuse G ef12) ws_X7_refuse lk_147 hd_X7_refuse ⟨by decide, by decide⟩ vl_20 rfl rfl rfl hl.1 rfl (Nat.le_of_ble_eq_true rfl) dX7_bears_11 (fun H locs hR => ?_)
    refine W.eq (g2 := F0 m 14 ls (.int r13 :: [])) rfl ?_
    obtain ⟨rfl, rfl⟩ := mm_pr h
    exact mm_iret C0 hR dX7_bears_14
def S_X7_becomes_17 (f : F3) (x1 : Int32) (x2 : Int32) : Option F3 := if okI x1 10 then (mm_let (up f 30 0 x1.toNatClampNeg x2) fun f5 => some f5) else none
set_option maxHeartbeats 4000000 in
set_option maxRecDepth 100000 in
theorem L_X7_becomes_17 {G : mmG} {p : Program} {e : Env} {s : State} {m : MethodId} {args : Array Value} {below : List Frame} {meth : Method} {c : Code} {f' : F3} (C0 : mmC yX7_becomes cX7_becomes 3 none p s m args meth c) {f : F3} {x1 : Int32} {x2 : Int32} (h : S_X7_becomes_17 f x1 x2 = some f') (H : Heap) (locs : List Loc) (ls : Array Slot) (hR : mm_R G mm_NT f (GG f) s H locs) (hl : lv_has ls 3 [(0, .ref (ra G 20 0)), (1, .int x1), (2, .int x2)]) : W p G.1 e (mm_rm 0) s m args below meth c H locs 0 0 (MQ below (mm_Q G mm_NT none f' (GG f')) args s 0 0 (mm_A G)) (F0 m 17 ls []) := by
  obtain ⟨hx, hb, hml, hr, hown, hts, hlocks⟩ := id C0
  rw [S_X7_becomes_17] at h
  refine lv_aload_n hx hb dX7_becomes_17 rfl (lv_at hl 0 rfl) ?_
  refine mm_get hx hb hts hown hR 20 0 3 vl_20 (v := .ref (ra G 30 0)) rfl rfl iX7 (by decide) lk_140 rfl dX7_becomes_18 ?_
  refine lv_iload_n hx hb dX7_becomes_21 rfl (lv_at hl 1 rfl) ?_
  refine lv_iload_n hx hb dX7_becomes_22 rfl (lv_at hl 2 rfl) ?_
  obtain ⟨z4, h⟩ := mm_if h
  obtain ⟨f5, ef5, h⟩ := mm_lt h
  refine mm_ist hx hb hR 30 0 (by decide) vl_30 (L := 10) (j := x1) (x := x2) (fun _ => rfl) (okI_in z4) dX7_becomes_23 (fun H locs hR => ?_)
  rw [← ef5] at hR
  obtain rfl := mm_p1 h
  exact mm_vret C0 hR dX7_becomes_24
def S_X7_becomes (f : F3) (x1 : Int32) (x2 : Int32) : Option F3 := if okI x1 10 then (if (f 30 0 x1.toNatClampNeg) = x2 then (S_X7_becomes_17 f x1 x2) else (mm_let (up f 37 0 x1.toNatClampNeg (-1)) fun f3 => S_X7_becomes_17 f3 x1 x2)) else none
set_option maxHeartbeats 4000000 in
set_option maxRecDepth 100000 in
theorem T_X7_becomes (G : mmG) {f f' : F3} {x1 : Int32} {x2 : Int32} (h : S_X7_becomes f x1 x2 = some f') : mmM G yX7_becomes cX7_becomes 3 none 0 [.ref (ra G 20 0), .int x1, .int x2] f none f' := by
  refine mm_start (by decide +kernel) (Nat.le_of_ble_eq_true rfl) ?_
  intro p e s m args below meth c ls C0 hR hl
  obtain ⟨hx, hb, hml, hr, hown, hts, hlocks⟩ := id C0
  have hl : lv_has ls 3 [(0, .ref (ra G 20 0)), (1, .int x1), (2, .int x2)] := hl
  rw [S_X7_becomes] at h
  refine lv_aload_n hx hb dX7_becomes_0 rfl (lv_at hl 0 rfl) ?_
  refine mm_get hx hb hts hown hR 20 0 3 vl_20 (v := .ref (ra G 30 0)) rfl rfl iX7 (by decide) lk_140 rfl dX7_becomes_1 ?_
  refine lv_iload_n hx hb dX7_becomes_4 rfl (lv_at hl 1 rfl) ?_
  obtain ⟨z1, h⟩ := mm_if h
  refine mm_ild hx hb hR 30 0 vl_30 (L := 10) rfl (okI_in z1) dX7_becomes_5 ?_
  refine lv_iload_n hx hb dX7_becomes_6 rfl (lv_at hl 2 rfl) ?_
  refine lv_icmp_eq (tgt := 17) hx hb dX7_becomes_7 (by decide) (fun c2 => ?_) (fun c2 => ?_)
  · rw [if_pos c2] at h
    exact L_X7_becomes_17 C0 h _ _ _ hR (lv_sub hl [0, 1, 2] rfl)
  · rw [if_neg c2] at h
    refine lv_aload_n hx hb dX7_becomes_10 rfl (lv_at hl 0 rfl) ?_
    refine mm_get hx hb hts hown hR 20 0 10 vl_20 (v := .ref (ra G 37 0)) rfl rfl iX7 (by decide) lk_148 rfl dX7_becomes_11 ?_
    refine lv_iload_n hx hb dX7_becomes_14 rfl (lv_at hl 1 rfl) ?_
    refine lv_iconst (v := (-1)) hx hb dX7_becomes_15 (by decide) ?_
    obtain ⟨f3, ef3, h⟩ := mm_lt h
    refine mm_ist hx hb hR 37 0 (by decide) vl_37 (L := 10) (j := x1) (x := (-1)) (fun _ => rfl) (okI_in z1) dX7_becomes_16 (fun H locs hR => ?_)
    rw [← ef3] at hR
    exact L_X7_becomes_17 C0 h _ _ _ hR (lv_sub hl [0, 1, 2] rfl)
def S_X7_loadsOn_38 (k4 : F3 → Int32 → Int32 → Int32 → Option (Int32 × F3)) (f : F3) (s0 : Int32) (s1 : Int32) (x1 : Int32) (x3 : Int32) : Option (Int32 × F3) := k4 f x1 (s0 + s1) (x3 + 1)
set_option maxHeartbeats 4000000 in
set_option maxRecDepth 100000 in
theorem L_X7_loadsOn_38 {G : mmG} {p : Program} {e : Env} {s : State} {m : MethodId} {args : Array Value} {below : List Frame} {meth : Method} {c : Code} {f' : F3} {rv : Int32} (C0 : mmC yX7_loadsOn cX7_loadsOn 4 (some .int) p s m args meth c) {k4 : F3 → Int32 → Int32 → Int32 → Option (Int32 × F3)} (hk4 : ∀ (f : F3) (x1 : Int32) (x2 : Int32) (x3 : Int32), k4 f x1 x2 x3 = some (rv, f') → ∀ (H : Heap) (locs : List Loc) (ls : Array Slot), mm_R G mm_NT f (GG f) s H locs → lv_has ls 4 [(0, .ref (ra G 20 0)), (1, .int x1), (2, .int x2), (3, .int x3)] → W p G.1 e (mm_rm 0) s m args below meth c H locs 0 0 (MQ below (mm_Q G mm_NT (some (.int rv)) f' (GG f')) args s 0 0 (mm_A G)) (F0 m 4 ls [])) {f : F3} {s0 : Int32} {s1 : Int32} {x1 : Int32} {x3 : Int32} (h : S_X7_loadsOn_38 k4 f s0 s1 x1 x3 = some (rv, f')) (H : Heap) (locs : List Loc) (ls : Array Slot) (hR : mm_R G mm_NT f (GG f) s H locs) (hl : lv_has ls 4 [(0, .ref (ra G 20 0)), (1, .int x1), (3, .int x3)]) : W p G.1 e (mm_rm 0) s m args below meth c H locs 0 0 (MQ below (mm_Q G mm_NT (some (.int rv)) f' (GG f')) args s 0 0 (mm_A G)) (F0 m 38 ls [.int s1, .int s0]) := by
  obtain ⟨hx, hb, hml, hr, hown, hts, hlocks⟩ := id C0
  rw [S_X7_loadsOn_38] at h
  refine lv_iadd hx hb dX7_loadsOn_38 ?_
  refine lv_istore_n (lv' := [(2, .int (s0 + s1)), (0, .ref (ra G 20 0)), (1, .int x1), (3, .int x3)]) hx hb dX7_loadsOn_39 rfl hl (by decide) rfl (fun ls hl => ?_)
  refine lv_iinc (v := x3 + 1) (lv' := [(3, .int (x3 + 1)), (2, .int (s0 + s1)), (0, .ref (ra G 20 0)), (1, .int x1)]) hx hb dX7_loadsOn_40 hl (k := 3) rfl rfl (by decide) rfl (fun ls hl => ?_)
  refine lv_goto (tgt := 4) hx hb dX7_loadsOn_43 (by decide) ?_
  exact hk4 _ x1 (s0 + s1) (x3 + 1)  h _ _ _ hR (lv_sub hl [2, 3, 1, 0] rfl)
def S_X7_loadsOn_37 (k4 : F3 → Int32 → Int32 → Int32 → Option (Int32 × F3)) (f : F3) (s0 : Int32) (x1 : Int32) (x3 : Int32) : Option (Int32 × F3) := S_X7_loadsOn_38 k4 f s0 0 x1 x3
set_option maxHeartbeats 4000000 in
set_option maxRecDepth 100000 in
theorem L_X7_loadsOn_37 {G : mmG} {p : Program} {e : Env} {s : State} {m : MethodId} {args : Array Value} {below : List Frame} {meth : Method} {c : Code} {f' : F3} {rv : Int32} (C0 : mmC yX7_loadsOn cX7_loadsOn 4 (some .int) p s m args meth c) {k4 : F3 → Int32 → Int32 → Int32 → Option (Int32 × F3)} (hk4 : ∀ (f : F3) (x1 : Int32) (x2 : Int32) (x3 : Int32), k4 f x1 x2 x3 = some (rv, f') → ∀ (H : Heap) (locs : List Loc) (ls : Array Slot), mm_R G mm_NT f (GG f) s H locs → lv_has ls 4 [(0, .ref (ra G 20 0)), (1, .int x1), (2, .int x2), (3, .int x3)] → W p G.1 e (mm_rm 0) s m args below meth c H locs 0 0 (MQ below (mm_Q G mm_NT (some (.int rv)) f' (GG f')) args s 0 0 (mm_A G)) (F0 m 4 ls [])) {f : F3} {s0 : Int32} {x1 : Int32} {x3 : Int32} (h : S_X7_loadsOn_37 k4 f s0 x1 x3 = some (rv, f')) (H : Heap) (locs : List Loc) (ls : Array Slot) (hR : mm_R G mm_NT f (GG f) s H locs) (hl : lv_has ls 4 [(0, .ref (ra G 20 0)), (1, .int x1), (3, .int x3)]) : W p G.1 e (mm_rm 0) s m args below meth c H locs 0 0 (MQ below (mm_Q G mm_NT (some (.int rv)) f' (GG f')) args s 0 0 (mm_A G)) (F0 m 37 ls [.int s0]) := by
  obtain ⟨hx, hb, hml, hr, hown, hts, hlocks⟩ := id C0
  rw [S_X7_loadsOn_37] at h
  refine lv_iconst (v := 0) hx hb dX7_loadsOn_37 (by decide) ?_
  exact L_X7_loadsOn_38 C0 hk4 h _ _ _ hR (lv_sub hl [0, 1, 2] rfl)
def S_X7_loadsOn_4 : Nat → F3 → Int32 → Int32 → Int32 → Option (Int32 × F3)
  | 0, _, _, _, _ => none
  | n + 1, f, x1, x2, x3 => if (f 20 0 13) ≤ x3 then (some (x2, f)) else (if okI x3 24 then (if (f 43 0 x3.toNatClampNeg) = 1 then (if (f 44 0 x3.toNatClampNeg) = x1 then (S_X7_loadsOn_38 (fun f9 x1_ x2_ x3_ => S_X7_loadsOn_4 n f9 x1_ x2_ x3_) f x2 1 x1 x3) else (S_X7_loadsOn_37 (fun f9 x1_ x2_ x3_ => S_X7_loadsOn_4 n f9 x1_ x2_ x3_) f x2 x1 x3)) else (S_X7_loadsOn_37 (fun f9 x1_ x2_ x3_ => S_X7_loadsOn_4 n f9 x1_ x2_ x3_) f x2 x1 x3)) else none)
set_option maxHeartbeats 4000000 in
set_option maxRecDepth 100000 in
theorem L_X7_loadsOn_4 {G : mmG} {p : Program} {e : Env} {s : State} {m : MethodId} {args : Array Value} {below : List Frame} {meth : Method} {c : Code} {f' : F3} {rv : Int32} (C0 : mmC yX7_loadsOn cX7_loadsOn 4 (some .int) p s m args meth c) : ∀ (n : Nat) {f : F3} {x1 : Int32} {x2 : Int32} {x3 : Int32} , S_X7_loadsOn_4 n f x1 x2 x3 = some (rv, f') → ∀ (H : Heap) (locs : List Loc) (ls : Array Slot), mm_R G mm_NT f (GG f) s H locs → lv_has ls 4 [(0, .ref (ra G 20 0)), (1, .int x1), (2, .int x2), (3, .int x3)] → W p G.1 e (mm_rm 0) s m args below meth c H locs 0 0 (MQ below (mm_Q G mm_NT (some (.int rv)) f' (GG f')) args s 0 0 (mm_A G)) (F0 m 4 ls []) := by
  obtain ⟨hx, hb, hml, hr, hown, hts, hlocks⟩ := id C0
  intro n
  induction n with
  | zero =>
    intro f x1 x2 x3  h H locs ls hR hl
    cases h
  | succ n ih =>
    intro f x1 x2 x3  h H locs ls hR hl
    rw [S_X7_loadsOn_4] at h
    refine lv_iload_n hx hb dX7_loadsOn_4 rfl (lv_at hl 3 rfl) ?_
    refine lv_aload_n hx hb dX7_loadsOn_5 rfl (lv_at hl 0 rfl) ?_
    refine mm_get hx hb hts hown hR 20 0 13 vl_20 (v := .int (f 20 0 13)) rfl rfl iX7 (by decide) lk_149 rfl dX7_loadsOn_6 ?_
    refine lv_icmp_ge (tgt := 46) hx hb dX7_loadsOn_9 (by decide) (fun c1 => ?_) (fun c1 => ?_)
    · rw [if_pos c1] at h
      refine lv_iload_n hx hb dX7_loadsOn_46 rfl (lv_at hl 2 rfl) ?_
      obtain ⟨rfl, rfl⟩ := mm_pr h
      exact mm_iret C0 hR dX7_loadsOn_47
    · rw [if_neg c1] at h
      refine lv_iload_n hx hb dX7_loadsOn_12 rfl (lv_at hl 2 rfl) ?_
      refine lv_aload_n hx hb dX7_loadsOn_13 rfl (lv_at hl 0 rfl) ?_
      refine mm_get hx hb hts hown hR 20 0 17 vl_20 (v := .ref (ra G 43 0)) rfl rfl iX7 (by decide) lk_150 rfl dX7_loadsOn_14 ?_
      refine lv_iload_n hx hb dX7_loadsOn_17 rfl (lv_at hl 3 rfl) ?_
      obtain ⟨z2, h⟩ := mm_if h
      refine mm_ild hx hb hR 43 0 vl_43 (L := 24) rfl (okI_in z2) dX7_loadsOn_18 ?_
      refine lv_iconst (v := 1) hx hb dX7_loadsOn_19 (by decide) ?_
      refine lv_icmp_ne (tgt := 37) hx hb dX7_loadsOn_20 (by decide) (fun c3 => ?_) (fun c3 => ?_)
      · rw [if_neg c3] at h
        exact L_X7_loadsOn_37 C0 (fun _ _ _ _ h9 H9 locs9 ls9 hR9 hl9 => ih h9 _ _ _ hR9 hl9) h _ _ _ hR (lv_sub hl [0, 1, 3] rfl)
      · rw [if_pos c3] at h
        refine lv_aload_n hx hb dX7_loadsOn_23 rfl (lv_at hl 0 rfl) ?_
        refine mm_get hx hb hts hown hR 20 0 18 vl_20 (v := .ref (ra G 44 0)) rfl rfl iX7 (by decide) lk_151 rfl dX7_loadsOn_24 ?_
        refine lv_iload_n hx hb dX7_loadsOn_27 rfl (lv_at hl 3 rfl) ?_
        refine mm_ild hx hb hR 44 0 vl_44 (L := 24) rfl (okI_in z2) dX7_loadsOn_28 ?_
        refine lv_iload_n hx hb dX7_loadsOn_29 rfl (lv_at hl 1 rfl) ?_
        refine lv_icmp_ne (tgt := 37) hx hb dX7_loadsOn_30 (by decide) (fun c4 => ?_) (fun c4 => ?_)
        · rw [if_neg c4] at h
          exact L_X7_loadsOn_37 C0 (fun _ _ _ _ h9 H9 locs9 ls9 hR9 hl9 => ih h9 _ _ _ hR9 hl9) h _ _ _ hR (lv_sub hl [0, 1, 3] rfl)
        · rw [if_pos c4] at h
          refine lv_iconst (v := 1) hx hb dX7_loadsOn_33 (by decide) ?_
          refine lv_goto (tgt := 38) hx hb dX7_loadsOn_34 (by decide) ?_
          exact L_X7_loadsOn_38 C0 (fun _ _ _ _ h9 H9 locs9 ls9 hR9 hl9 => ih h9 _ _ _ hR9 hl9) h _ _ _ hR (lv_sub hl [0, 1, 3] rfl)
def S_X7_loadsOn (f : F3) (x1 : Int32) : Option (Int32 × F3) := S_X7_loadsOn_4 FU f x1 0 0
set_option maxHeartbeats 4000000 in
set_option maxRecDepth 100000 in
theorem T_X7_loadsOn (G : mmG) {f f' : F3} {rv : Int32} {x1 : Int32} (h : S_X7_loadsOn f x1 = some (rv, f')) : mmM G yX7_loadsOn cX7_loadsOn 4 (some .int) 0 [.ref (ra G 20 0), .int x1] f (some (.int rv)) f' := by
  refine mm_start (by decide +kernel) (Nat.le_of_ble_eq_true rfl) ?_
  intro p e s m args below meth c ls C0 hR hl
  obtain ⟨hx, hb, hml, hr, hown, hts, hlocks⟩ := id C0
  have hl : lv_has ls 4 [(0, .ref (ra G 20 0)), (1, .int x1)] := hl
  rw [S_X7_loadsOn] at h
  refine lv_iconst (v := 0) hx hb dX7_loadsOn_0 (by decide) ?_
  refine lv_istore_n (lv' := [(2, .int 0), (0, .ref (ra G 20 0)), (1, .int x1)]) hx hb dX7_loadsOn_1 rfl hl (by decide) rfl (fun ls hl => ?_)
  refine lv_iconst (v := 0) hx hb dX7_loadsOn_2 (by decide) ?_
  refine lv_istore_n (lv' := [(3, .int 0), (2, .int 0), (0, .ref (ra G 20 0)), (1, .int x1)]) hx hb dX7_loadsOn_3 rfl hl (by decide) rfl (fun ls hl => ?_)
  exact L_X7_loadsOn_4 C0 _ h _ _ _ hR (lv_sub hl [2, 3, 1, 0] rfl)
def S_X7_bypass (f : F3) (x1 : Int32) : Option (Int32 × F3) := mm_b2 (S_X7_isCell f x1) fun r2 f1 => if r2 = 0 then (mm_b2 (S_X7_refuse f1 (-3)) fun r18 f17 => some (r18, f17)) else (if okI x1 10 then (if (f1 30 0 x1.toNatClampNeg) = 3 then (mm_b2 (S_X7_loadsOn f1 x1) fun r7 f6 => if r7 ≤ 0 then (Option.bind (S_X7_becomes f6 x1 1) fun f9 => mm_let (up f9 32 0 x1.toNatClampNeg 0) fun f10 => mm_let (up f10 35 0 x1.toNatClampNeg 0) fun f11 => mm_let (up f11 31 0 x1.toNatClampNeg ((f11 31 0 x1.toNatClampNeg) / 2)) fun f12 => some (f12 31 0 x1.toNatClampNeg, f12)) else (mm_b2 (S_X7_refuse f6 (-7)) fun r14 f13 => some (r14, f13))) else (mm_b2 (S_X7_refuse f1 (-5)) fun r16 f15 => some (r16, f15))) else none)
set_option maxHeartbeats 4000000 in
set_option maxRecDepth 100000 in
theorem T_X7_bypass (G : mmG) {f f' : F3} {rv : Int32} {x1 : Int32} (h : S_X7_bypass f x1 = some (rv, f')) : mmM G yX7_bypass cX7_bypass 2 (some .int) 2 [.ref (ra G 20 0), .int x1] f (some (.int rv)) f' := by
  refine mm_start (by decide +kernel) (Nat.le_of_ble_eq_true rfl) ?_
  intro p e s m args below meth c ls C0 hR hl
  obtain ⟨hx, hb, hml, hr, hown, hts, hlocks⟩ := id C0
  have hl : lv_has ls 2 [(0, .ref (ra G 20 0)), (1, .int x1)] := hl
  rw [S_X7_bypass] at h
  refine lv_aload_n hx hb dX7_bypass_0 rfl (lv_at hl 0 rfl) ?_
  refine lv_iload_n hx hb dX7_bypass_1 rfl (lv_at hl 1 rfl) ?_
  obtain ⟨r2, f1, ef1, h⟩ := mm_b2e h
  refine mm_callV (v := some (.int r2)) (f1 := f1) (d0 := 1) (rest := []) [.int x1] C0 rfl hR 20 0 (T_X7_isCell G ef1) ws_X7_isCell lk_146 hd_X7_isCell ⟨by decide, by decide⟩ vl_20 rfl rfl rfl hl.1 rfl (Nat.le_of_ble_eq_true rfl) dX7_bypass_2 (fun H locs hR => ?_)
  refine W.eq (g2 := F0 m 5 ls (.int r2 :: [])) rfl ?_
  refine lv_if_ne (tgt := 15) hx hb dX7_bypass_5 (by decide) (fun c3 => ?_) (fun c3 => ?_)
  · rw [if_neg c3] at h
    refine lv_aload_n hx hb dX7_bypass_15 rfl (lv_at hl 0 rfl) ?_
    refine mm_get hx hb hts hown hR 20 0 3 vl_20 (v := .ref (ra G 30 0)) rfl rfl iX7 (by decide) lk_140 rfl dX7_bypass_16 ?_
    refine lv_iload_n hx hb dX7_bypass_19 rfl (lv_at hl 1 rfl) ?_
    obtain ⟨z4, h⟩ := mm_if h
    refine mm_ild hx hb hR 30 0 vl_30 (L := 10) rfl (okI_in z4) dX7_bypass_20 ?_
    refine lv_iconst (v := 3) hx hb dX7_bypass_21 (by decide) ?_
    refine lv_icmp_eq (tgt := 32) hx hb dX7_bypass_22 (by decide) (fun c5 => ?_) (fun c5 => ?_)
    · rw [if_pos c5] at h
      refine lv_aload_n hx hb dX7_bypass_32 rfl (lv_at hl 0 rfl) ?_
      refine lv_iload_n hx hb dX7_bypass_33 rfl (lv_at hl 1 rfl) ?_
      obtain ⟨r7, f6, ef6, h⟩ := mm_b2e h
      refine mm_callV (v := some (.int r7)) (f1 := f6) (d0 := 0) (rest := []) [.int x1] C0 rfl hR 20 0 (T_X7_loadsOn G ef6) ws_X7_loadsOn lk_152 hd_X7_loadsOn ⟨by decide, by decide⟩ vl_20 rfl rfl rfl hl.1 rfl (Nat.le_of_ble_eq_true rfl) dX7_bypass_34 (fun H locs hR => ?_)
      refine W.eq (g2 := F0 m 37 ls (.int r7 :: [])) rfl ?_
      refine lv_if_le (tgt := 47) hx hb dX7_bypass_37 (by decide) (fun c8 => ?_) (fun c8 => ?_)
      · rw [if_pos c8] at h
        refine lv_aload_n hx hb dX7_bypass_47 rfl (lv_at hl 0 rfl) ?_
        refine lv_iload_n hx hb dX7_bypass_48 rfl (lv_at hl 1 rfl) ?_
        refine lv_iconst (v := 1) hx hb dX7_bypass_49 (by decide) ?_
        obtain ⟨f9, ef9, h⟩ := mm_bind h
        refine mm_callV (v := none) (f1 := f9) (d0 := 0) (rest := []) [.int x1, .int 1] C0 rfl hR 20 0 (T_X7_becomes G ef9) ws_X7_becomes lk_153 hd_X7_becomes ⟨by decide, by decide⟩ vl_20 rfl rfl rfl hl.1 rfl (Nat.le_of_ble_eq_true rfl) dX7_bypass_50 (fun H locs hR => ?_)
        refine W.eq (g2 := F0 m 53 ls ([])) rfl ?_
        refine lv_aload_n hx hb dX7_bypass_53 rfl (lv_at hl 0 rfl) ?_
        refine mm_get hx hb hts hown hR 20 0 5 vl_20 (v := .ref (ra G 32 0)) rfl rfl iX7 (by decide) lk_154 rfl dX7_bypass_54 ?_
        refine lv_iload_n hx hb dX7_bypass_57 rfl (lv_at hl 1 rfl) ?_
        refine lv_iconst (v := 0) hx hb dX7_bypass_58 (by decide) ?_
        obtain ⟨f10, ef10, h⟩ := mm_lt h
        refine mm_ist hx hb hR 32 0 (by decide) vl_32 (L := 10) (j := x1) (x := 0) (fun _ => rfl) (okI_in z4) dX7_bypass_59 (fun H locs hR => ?_)
        rw [← ef10] at hR
        refine lv_aload_n hx hb dX7_bypass_60 rfl (lv_at hl 0 rfl) ?_
        refine mm_get hx hb hts hown hR 20 0 8 vl_20 (v := .ref (ra G 35 0)) rfl rfl iX7 (by decide) lk_155 rfl dX7_bypass_61 ?_
        refine lv_iload_n hx hb dX7_bypass_64 rfl (lv_at hl 1 rfl) ?_
        refine lv_iconst (v := 0) hx hb dX7_bypass_65 (by decide) ?_
        obtain ⟨f11, ef11, h⟩ := mm_lt h
        refine mm_ist hx hb hR 35 0 (by decide) vl_35 (L := 10) (j := x1) (x := 0) (fun _ => rfl) (okI_in z4) dX7_bypass_66 (fun H locs hR => ?_)
        rw [← ef11] at hR
        refine lv_aload_n hx hb dX7_bypass_67 rfl (lv_at hl 0 rfl) ?_
        refine mm_get hx hb hts hown hR 20 0 4 vl_20 (v := .ref (ra G 31 0)) rfl rfl iX7 (by decide) lk_141 rfl dX7_bypass_68 ?_
        refine lv_iload_n hx hb dX7_bypass_71 rfl (lv_at hl 1 rfl) ?_
        refine lv_dup2_11 hx hb dX7_bypass_72 rfl rfl ?_
        refine mm_ild hx hb hR 31 0 vl_31 (L := 10) rfl (okI_in z4) dX7_bypass_73 ?_
        refine lv_iconst (v := 2) hx hb dX7_bypass_74 (by decide) ?_
        refine lv_idiv hx hb dX7_bypass_75 (by decide) ?_
        obtain ⟨f12, ef12, h⟩ := mm_lt h
        refine mm_ist hx hb hR 31 0 (by decide) vl_31 (L := 10) (j := x1) (x := (f11 31 0 x1.toNatClampNeg) / 2) (fun _ => rfl) (okI_in z4) dX7_bypass_76 (fun H locs hR => ?_)
        rw [← ef12] at hR
        refine lv_aload_n hx hb dX7_bypass_77 rfl (lv_at hl 0 rfl) ?_
        refine mm_get hx hb hts hown hR 20 0 4 vl_20 (v := .ref (ra G 31 0)) rfl rfl iX7 (by decide) lk_141 rfl dX7_bypass_78 ?_
        refine lv_iload_n hx hb dX7_bypass_81 rfl (lv_at hl 1 rfl) ?_
        refine mm_ild hx hb hR 31 0 vl_31 (L := 10) rfl (okI_in z4) dX7_bypass_82 ?_
        obtain ⟨rfl, rfl⟩ := mm_pr h
        exact mm_iret C0 hR dX7_bypass_83
      · rw [if_neg c8] at h
        refine lv_aload_n hx hb dX7_bypass_40 rfl (lv_at hl 0 rfl) ?_
        refine lv_bipush (v := (-7)) hx hb dX7_bypass_41 (by decide) ?_
        obtain ⟨r14, f13, ef13, h⟩ := mm_b2e h
        refine mm_callV (v := some (.int r14)) (f1 := f13) (d0 := 0) (rest := []) [.int (-7)] C0 rfl hR 20 0 (T_X7_refuse G ef13) ws_X7_refuse lk_147 hd_X7_refuse ⟨by decide, by decide⟩ vl_20 rfl rfl rfl hl.1 rfl (Nat.le_of_ble_eq_true rfl) dX7_bypass_43 (fun H locs hR => ?_)
        refine W.eq (g2 := F0 m 46 ls (.int r14 :: [])) rfl ?_
        obtain ⟨rfl, rfl⟩ := mm_pr h
        exact mm_iret C0 hR dX7_bypass_46
    · rw [if_neg c5] at h
      refine lv_aload_n hx hb dX7_bypass_25 rfl (lv_at hl 0 rfl) ?_
      refine lv_bipush (v := (-5)) hx hb dX7_bypass_26 (by decide) ?_
      obtain ⟨r16, f15, ef15, h⟩ := mm_b2e h
      refine mm_callV (v := some (.int r16)) (f1 := f15) (d0 := 0) (rest := []) [.int (-5)] C0 rfl hR 20 0 (T_X7_refuse G ef15) ws_X7_refuse lk_147 hd_X7_refuse ⟨by decide, by decide⟩ vl_20 rfl rfl rfl hl.1 rfl (Nat.le_of_ble_eq_true rfl) dX7_bypass_28 (fun H locs hR => ?_)
      refine W.eq (g2 := F0 m 31 ls (.int r16 :: [])) rfl ?_
      obtain ⟨rfl, rfl⟩ := mm_pr h
      exact mm_iret C0 hR dX7_bypass_31
  · rw [if_pos c3] at h
    refine lv_aload_n hx hb dX7_bypass_8 rfl (lv_at hl 0 rfl) ?_
    refine lv_bipush (v := (-3)) hx hb dX7_bypass_9 (by decide) ?_
    obtain ⟨r18, f17, ef17, h⟩ := mm_b2e h
    refine mm_callV (v := some (.int r18)) (f1 := f17) (d0 := 0) (rest := []) [.int (-3)] C0 rfl hR 20 0 (T_X7_refuse G ef17) ws_X7_refuse lk_147 hd_X7_refuse ⟨by decide, by decide⟩ vl_20 rfl rfl rfl hl.1 rfl (Nat.le_of_ble_eq_true rfl) dX7_bypass_11 (fun H locs hR => ?_)
    refine W.eq (g2 := F0 m 14 ls (.int r18 :: [])) rfl ?_
    obtain ⟨rfl, rfl⟩ := mm_pr h
    exact mm_iret C0 hR dX7_bypass_14
def S_X7_heatOf_103 (k36 : F3 → Int32 → Int32 → Int32 → Int32 → Option (Int32 × F3)) (f : F3) (s0 : Int32) (x2 : Int32) (x3 : Int32) (x5 : Int32) : Option (Int32 × F3) := k36 f x2 x3 s0 (x5 + 1)
set_option maxHeartbeats 4000000 in
set_option maxRecDepth 100000 in
theorem L_X7_heatOf_103 {G : mmG} {p : Program} {e : Env} {s : State} {m : MethodId} {args : Array Value} {below : List Frame} {meth : Method} {c : Code} {f' : F3} {rv : Int32} (C0 : mmC yX7_heatOf cX7_heatOf 8 (some .int) p s m args meth c) {k36 : F3 → Int32 → Int32 → Int32 → Int32 → Option (Int32 × F3)} (hk36 : ∀ (f : F3) (x2 : Int32) (x3 : Int32) (x4 : Int32) (x5 : Int32), k36 f x2 x3 x4 x5 = some (rv, f') → ∀ (H : Heap) (locs : List Loc) (ls : Array Slot), mm_R G mm_NT f (GG f) s H locs → lv_has ls 8 [(0, .ref (ra G 20 0)), (2, .int x2), (3, .int x3), (4, .int x4), (5, .int x5)] → W p G.1 e (mm_rm 0) s m args below meth c H locs 0 0 (MQ below (mm_Q G mm_NT (some (.int rv)) f' (GG f')) args s 0 0 (mm_A G)) (F0 m 36 ls [])) {f : F3} {s0 : Int32} {x2 : Int32} {x3 : Int32} {x5 : Int32} (h : S_X7_heatOf_103 k36 f s0 x2 x3 x5 = some (rv, f')) (H : Heap) (locs : List Loc) (ls : Array Slot) (hR : mm_R G mm_NT f (GG f) s H locs) (hl : lv_has ls 8 [(0, .ref (ra G 20 0)), (2, .int x2), (3, .int x3), (5, .int x5)]) : W p G.1 e (mm_rm 0) s m args below meth c H locs 0 0 (MQ below (mm_Q G mm_NT (some (.int rv)) f' (GG f')) args s 0 0 (mm_A G)) (F0 m 103 ls [.int s0]) := by
  obtain ⟨hx, hb, hml, hr, hown, hts, hlocks⟩ := id C0
  rw [S_X7_heatOf_103] at h
  refine lv_istore (lv' := [(4, .int s0), (0, .ref (ra G 20 0)), (2, .int x2), (3, .int x3), (5, .int x5)]) hx hb dX7_heatOf_103 hl (by decide) rfl (fun ls hl => ?_)
  refine lv_iinc (v := x5 + 1) (lv' := [(5, .int (x5 + 1)), (4, .int s0), (0, .ref (ra G 20 0)), (2, .int x2), (3, .int x3)]) hx hb dX7_heatOf_105 hl (k := 4) rfl rfl (by decide) rfl (fun ls hl => ?_)
  refine lv_goto (tgt := 36) hx hb dX7_heatOf_108 (by decide) ?_
  exact hk36 _ x2 x3 s0 (x5 + 1)  h _ _ _ hR (lv_sub hl [2, 3, 4, 1, 0] rfl)
def S_X7_heatOf_87 (k36 : F3 → Int32 → Int32 → Int32 → Int32 → Option (Int32 × F3)) (f : F3) (s0 : Int32) (x2 : Int32) (x4 : Int32) (x5 : Int32) (x7 : Int32) : Option (Int32 × F3) := if x4 = (-9999) then (S_X7_heatOf_103 k36 f x7 x2 s0 x5) else (S_X7_heatOf_103 k36 f x4 x2 s0 x5)
set_option maxHeartbeats 4000000 in
set_option maxRecDepth 100000 in
theorem L_X7_heatOf_87 {G : mmG} {p : Program} {e : Env} {s : State} {m : MethodId} {args : Array Value} {below : List Frame} {meth : Method} {c : Code} {f' : F3} {rv : Int32} (C0 : mmC yX7_heatOf cX7_heatOf 8 (some .int) p s m args meth c) {k36 : F3 → Int32 → Int32 → Int32 → Int32 → Option (Int32 × F3)} (hk36 : ∀ (f : F3) (x2 : Int32) (x3 : Int32) (x4 : Int32) (x5 : Int32), k36 f x2 x3 x4 x5 = some (rv, f') → ∀ (H : Heap) (locs : List Loc) (ls : Array Slot), mm_R G mm_NT f (GG f) s H locs → lv_has ls 8 [(0, .ref (ra G 20 0)), (2, .int x2), (3, .int x3), (4, .int x4), (5, .int x5)] → W p G.1 e (mm_rm 0) s m args below meth c H locs 0 0 (MQ below (mm_Q G mm_NT (some (.int rv)) f' (GG f')) args s 0 0 (mm_A G)) (F0 m 36 ls [])) {f : F3} {s0 : Int32} {x2 : Int32} {x4 : Int32} {x5 : Int32} {x7 : Int32} (h : S_X7_heatOf_87 k36 f s0 x2 x4 x5 x7 = some (rv, f')) (H : Heap) (locs : List Loc) (ls : Array Slot) (hR : mm_R G mm_NT f (GG f) s H locs) (hl : lv_has ls 8 [(0, .ref (ra G 20 0)), (2, .int x2), (4, .int x4), (5, .int x5), (7, .int x7)]) : W p G.1 e (mm_rm 0) s m args below meth c H locs 0 0 (MQ below (mm_Q G mm_NT (some (.int rv)) f' (GG f')) args s 0 0 (mm_A G)) (F0 m 87 ls [.int s0]) := by
  obtain ⟨hx, hb, hml, hr, hown, hts, hlocks⟩ := id C0
  rw [S_X7_heatOf_87] at h
  refine lv_istore_n (lv' := [(3, .int s0), (0, .ref (ra G 20 0)), (2, .int x2), (4, .int x4), (5, .int x5), (7, .int x7)]) hx hb dX7_heatOf_87 rfl hl (by decide) rfl (fun ls hl => ?_)
  refine lv_iload hx hb dX7_heatOf_88 (lv_at hl 3 rfl) ?_
  refine lv_sipush (v := (-9999)) hx hb dX7_heatOf_90 (by decide) ?_
  refine lv_icmp_ne (tgt := 101) hx hb dX7_heatOf_93 (by decide) (fun c9 => ?_) (fun c9 => ?_)
  · rw [if_neg c9] at h
    refine lv_iload hx hb dX7_heatOf_101 (lv_at hl 3 rfl) ?_
    exact L_X7_heatOf_103 C0 hk36 h _ _ _ hR (lv_sub hl [1, 2, 0, 4] rfl)
  · rw [if_pos c9] at h
    refine lv_iload hx hb dX7_heatOf_96 (lv_at hl 5 rfl) ?_
    refine lv_goto (tgt := 103) hx hb dX7_heatOf_98 (by decide) ?_
    exact L_X7_heatOf_103 C0 hk36 h _ _ _ hR (lv_sub hl [1, 2, 0, 4] rfl)
def S_X7_heatOf_36 : Nat → F3 → Int32 → Int32 → Int32 → Int32 → Option (Int32 × F3)
  | 0, _, _, _, _, _ => none
  | n + 1, f, x2, x3, x4, x5 => if 48 ≤ x5 then (if x3 = (-9999) then (some ((-100), f)) else (if x3 ≤ x4 then (some (x4, f)) else (some (x3, f)))) else (if okI (((x2 + 48) - x5) - ((x2 + 48) - x5) / 48 * 48) 48 then (if okI ((x2 + x5) - (x2 + x5) / 48 * 48) 48 then (if x3 = (-9999) then (S_X7_heatOf_87 (fun f9 x2_ x3_ x4_ x5_ => S_X7_heatOf_36 n f9 x2_ x3_ x4_ x5_) f (f 22 0 (((x2 + 48) - x5) - ((x2 + 48) - x5) / 48 * 48).toNatClampNeg) x2 x4 x5 (f 22 0 ((x2 + x5) - (x2 + x5) / 48 * 48).toNatClampNeg)) else (S_X7_heatOf_87 (fun f9 x2_ x3_ x4_ x5_ => S_X7_heatOf_36 n f9 x2_ x3_ x4_ x5_) f x3 x2 x4 x5 (f 22 0 ((x2 + x5) - (x2 + x5) / 48 * 48).toNatClampNeg))) else none) else none)
set_option maxHeartbeats 4000000 in
set_option maxRecDepth 100000 in
theorem L_X7_heatOf_36 {G : mmG} {p : Program} {e : Env} {s : State} {m : MethodId} {args : Array Value} {below : List Frame} {meth : Method} {c : Code} {f' : F3} {rv : Int32} (C0 : mmC yX7_heatOf cX7_heatOf 8 (some .int) p s m args meth c) : ∀ (n : Nat) {f : F3} {x2 : Int32} {x3 : Int32} {x4 : Int32} {x5 : Int32} , S_X7_heatOf_36 n f x2 x3 x4 x5 = some (rv, f') → ∀ (H : Heap) (locs : List Loc) (ls : Array Slot), mm_R G mm_NT f (GG f) s H locs → lv_has ls 8 [(0, .ref (ra G 20 0)), (2, .int x2), (3, .int x3), (4, .int x4), (5, .int x5)] → W p G.1 e (mm_rm 0) s m args below meth c H locs 0 0 (MQ below (mm_Q G mm_NT (some (.int rv)) f' (GG f')) args s 0 0 (mm_A G)) (F0 m 36 ls []) := by
  obtain ⟨hx, hb, hml, hr, hown, hts, hlocks⟩ := id C0
  intro n
  induction n with
  | zero =>
    intro f x2 x3 x4 x5  h H locs ls hR hl
    cases h
  | succ n ih =>
    intro f x2 x3 x4 x5  h H locs ls hR hl
    rw [S_X7_heatOf_36] at h
    refine lv_iload hx hb dX7_heatOf_36 (lv_at hl 4 rfl) ?_
    refine lv_bipush (v := 48) hx hb dX7_heatOf_38 (by decide) ?_
    refine lv_icmp_ge (tgt := 111) hx hb dX7_heatOf_40 (by decide) (fun c3 => ?_) (fun c3 => ?_)
    · rw [if_pos c3] at h
      refine lv_iload_n hx hb dX7_heatOf_111 rfl (lv_at hl 2 rfl) ?_
      refine lv_sipush (v := (-9999)) hx hb dX7_heatOf_112 (by decide) ?_
      refine lv_icmp_ne (tgt := 123) hx hb dX7_heatOf_115 (by decide) (fun c4 => ?_) (fun c4 => ?_)
      · rw [if_neg c4] at h
        refine lv_iload_n hx hb dX7_heatOf_123 rfl (lv_at hl 2 rfl) ?_
        refine lv_iload hx hb dX7_heatOf_124 (lv_at hl 3 rfl) ?_
        refine lv_icmp_le (tgt := 133) hx hb dX7_heatOf_126 (by decide) (fun c5 => ?_) (fun c5 => ?_)
        · rw [if_pos c5] at h
          refine lv_iload hx hb dX7_heatOf_133 (lv_at hl 3 rfl) ?_
          obtain ⟨rfl, rfl⟩ := mm_pr h
          exact mm_iret C0 hR dX7_heatOf_135
        · rw [if_neg c5] at h
          refine lv_iload_n hx hb dX7_heatOf_129 rfl (lv_at hl 2 rfl) ?_
          refine lv_goto (tgt := 135) hx hb dX7_heatOf_130 (by decide) ?_
          obtain ⟨rfl, rfl⟩ := mm_pr h
          exact mm_iret C0 hR dX7_heatOf_135
      · rw [if_pos c4] at h
        refine lv_bipush (v := (-100)) hx hb dX7_heatOf_118 (by decide) ?_
        refine lv_goto (tgt := 135) hx hb dX7_heatOf_120 (by decide) ?_
        obtain ⟨rfl, rfl⟩ := mm_pr h
        exact mm_iret C0 hR dX7_heatOf_135
    · rw [if_neg c3] at h
      refine lv_aload_n hx hb dX7_heatOf_43 rfl (lv_at hl 0 rfl) ?_
      refine mm_get hx hb hts hown hR 20 0 12 vl_20 (v := .ref (ra G 22 0)) rfl rfl iX7 (by decide) lk_156 rfl dX7_heatOf_44 ?_
      refine lv_iload_n hx hb dX7_heatOf_47 rfl (lv_at hl 1 rfl) ?_
      refine lv_bipush (v := 48) hx hb dX7_heatOf_48 (by decide) ?_
      refine lv_iadd hx hb dX7_heatOf_50 ?_
      refine lv_iload hx hb dX7_heatOf_51 (lv_at hl 4 rfl) ?_
      refine lv_isub hx hb dX7_heatOf_53 ?_
      refine lv_bipush (v := 48) hx hb dX7_heatOf_54 (by decide) ?_
      refine lv_irem hx hb dX7_heatOf_56 (by decide) ?_
      obtain ⟨z6, h⟩ := mm_if h
      refine mm_ild hx hb hR 22 0 vl_22 (L := 48) rfl (okI_in z6) dX7_heatOf_57 ?_
      refine lv_istore (lv' := [(6, .int (f 22 0 (((x2 + 48) - x5) - ((x2 + 48) - x5) / 48 * 48).toNatClampNeg)), (0, .ref (ra G 20 0)), (2, .int x2), (3, .int x3), (4, .int x4), (5, .int x5)]) hx hb dX7_heatOf_58 hl (by decide) rfl (fun ls hl => ?_)
      refine lv_aload_n hx hb dX7_heatOf_60 rfl (lv_at hl 1 rfl) ?_
      refine mm_get hx hb hts hown hR 20 0 12 vl_20 (v := .ref (ra G 22 0)) rfl rfl iX7 (by decide) lk_156 rfl dX7_heatOf_61 ?_
      refine lv_iload_n hx hb dX7_heatOf_64 rfl (lv_at hl 2 rfl) ?_
      refine lv_iload hx hb dX7_heatOf_65 (lv_at hl 5 rfl) ?_
      refine lv_iadd hx hb dX7_heatOf_67 ?_
      refine lv_bipush (v := 48) hx hb dX7_heatOf_68 (by decide) ?_
      refine lv_irem hx hb dX7_heatOf_70 (by decide) ?_
      obtain ⟨z7, h⟩ := mm_if h
      refine mm_ild hx hb hR 22 0 vl_22 (L := 48) rfl (okI_in z7) dX7_heatOf_71 ?_
      refine lv_istore (lv' := [(7, .int (f 22 0 ((x2 + x5) - (x2 + x5) / 48 * 48).toNatClampNeg)), (6, .int (f 22 0 (((x2 + 48) - x5) - ((x2 + 48) - x5) / 48 * 48).toNatClampNeg)), (0, .ref (ra G 20 0)), (2, .int x2), (3, .int x3), (4, .int x4), (5, .int x5)]) hx hb dX7_heatOf_72 hl (by decide) rfl (fun ls hl => ?_)
      refine lv_iload_n hx hb dX7_heatOf_74 rfl (lv_at hl 4 rfl) ?_
      refine lv_sipush (v := (-9999)) hx hb dX7_heatOf_75 (by decide) ?_
      refine lv_icmp_ne (tgt := 86) hx hb dX7_heatOf_78 (by decide) (fun c8 => ?_) (fun c8 => ?_)
      · rw [if_neg c8] at h
        refine lv_iload_n hx hb dX7_heatOf_86 rfl (lv_at hl 4 rfl) ?_
        exact L_X7_heatOf_87 C0 (fun _ _ _ _ _ h9 H9 locs9 ls9 hR9 hl9 => ih h9 _ _ _ hR9 hl9) h _ _ _ hR (lv_sub hl [2, 3, 5, 6, 0] rfl)
      · rw [if_pos c8] at h
        refine lv_iload hx hb dX7_heatOf_81 (lv_at hl 1 rfl) ?_
        refine lv_goto (tgt := 87) hx hb dX7_heatOf_83 (by decide) ?_
        exact L_X7_heatOf_87 C0 (fun _ _ _ _ _ h9 H9 locs9 ls9 hR9 hl9 => ih h9 _ _ _ hR9 hl9) h _ _ _ hR (lv_sub hl [2, 3, 5, 6, 0] rfl)
def S_X7_heatOf (f : F3) (x1 : Int32) : Option (Int32 × F3) := if okI (x1 - x1 / 48 * 48) 48 then (if (f 22 0 (x1 - x1 / 48 * 48).toNatClampNeg) = (-9999) then (S_X7_heatOf_36 FU f (x1 - x1 / 48 * 48) (-9999) (-9999) 1) else (some (f 22 0 (x1 - x1 / 48 * 48).toNatClampNeg, f))) else none
set_option maxHeartbeats 4000000 in
set_option maxRecDepth 100000 in
theorem T_X7_heatOf (G : mmG) {f f' : F3} {rv : Int32} {x1 : Int32} (h : S_X7_heatOf f x1 = some (rv, f')) : mmM G yX7_heatOf cX7_heatOf 8 (some .int) 0 [.ref (ra G 20 0), .int x1] f (some (.int rv)) f' := by
  refine mm_start (by decide +kernel) (Nat.le_of_ble_eq_true rfl) ?_
  intro p e s m args below meth c ls C0 hR hl
  obtain ⟨hx, hb, hml, hr, hown, hts, hlocks⟩ := id C0
  have hl : lv_has ls 8 [(0, .ref (ra G 20 0)), (1, .int x1)] := hl
  rw [S_X7_heatOf] at h
  refine lv_iload_n hx hb dX7_heatOf_0 rfl (lv_at hl 1 rfl) ?_
  refine lv_bipush (v := 48) hx hb dX7_heatOf_1 (by decide) ?_
  refine lv_irem hx hb dX7_heatOf_3 (by decide) ?_
  refine lv_istore_n (lv' := [(2, .int (x1 - x1 / 48 * 48)), (0, .ref (ra G 20 0)), (1, .int x1)]) hx hb dX7_heatOf_4 rfl hl (by decide) rfl (fun ls hl => ?_)
  refine lv_aload_n hx hb dX7_heatOf_5 rfl (lv_at hl 1 rfl) ?_
  refine mm_get hx hb hts hown hR 20 0 12 vl_20 (v := .ref (ra G 22 0)) rfl rfl iX7 (by decide) lk_156 rfl dX7_heatOf_6 ?_
  refine lv_iload_n hx hb dX7_heatOf_9 rfl (lv_at hl 0 rfl) ?_
  obtain ⟨z1, h⟩ := mm_if h
  refine mm_ild hx hb hR 22 0 vl_22 (L := 48) rfl (okI_in z1) dX7_heatOf_10 ?_
  refine lv_sipush (v := (-9999)) hx hb dX7_heatOf_11 (by decide) ?_
  refine lv_icmp_eq (tgt := 24) hx hb dX7_heatOf_14 (by decide) (fun c2 => ?_) (fun c2 => ?_)
  · rw [if_pos c2] at h
    refine lv_sipush (v := (-9999)) hx hb dX7_heatOf_24 (by decide) ?_
    refine lv_istore_n (lv' := [(3, .int (-9999)), (2, .int (x1 - x1 / 48 * 48)), (0, .ref (ra G 20 0)), (1, .int x1)]) hx hb dX7_heatOf_27 rfl hl (by decide) rfl (fun ls hl => ?_)
    refine lv_sipush (v := (-9999)) hx hb dX7_heatOf_28 (by decide) ?_
    refine lv_istore (lv' := [(4, .int (-9999)), (3, .int (-9999)), (2, .int (x1 - x1 / 48 * 48)), (0, .ref (ra G 20 0)), (1, .int x1)]) hx hb dX7_heatOf_31 hl (by decide) rfl (fun ls hl => ?_)
    refine lv_iconst (v := 1) hx hb dX7_heatOf_33 (by decide) ?_
    refine lv_istore (lv' := [(5, .int 1), (4, .int (-9999)), (3, .int (-9999)), (2, .int (x1 - x1 / 48 * 48)), (0, .ref (ra G 20 0)), (1, .int x1)]) hx hb dX7_heatOf_34 hl (by decide) rfl (fun ls hl => ?_)
    exact L_X7_heatOf_36 C0 _ h _ _ _ hR (lv_sub hl [4, 3, 2, 1, 0] rfl)
  · rw [if_neg c2] at h
    refine lv_aload_n hx hb dX7_heatOf_17 rfl (lv_at hl 1 rfl) ?_
    refine mm_get hx hb hts hown hR 20 0 12 vl_20 (v := .ref (ra G 22 0)) rfl rfl iX7 (by decide) lk_156 rfl dX7_heatOf_18 ?_
    refine lv_iload_n hx hb dX7_heatOf_21 rfl (lv_at hl 0 rfl) ?_
    refine mm_ild hx hb hR 22 0 vl_22 (L := 48) rfl (okI_in z1) dX7_heatOf_22 ?_
    obtain ⟨rfl, rfl⟩ := mm_pr h
    exact mm_iret C0 hR dX7_heatOf_23
def S_X7_field (f : F3) (x1 : Int32) (x2 : Int32) (x3 : Int32) : Option (Int32 × F3) := if x1 = 0 then (if okI x2 24 then (some (f 40 0 x2.toNatClampNeg, f)) else none) else (if x1 = 1 then (if okI x2 24 then (some (f 41 0 x2.toNatClampNeg, f)) else none) else (if x1 = 2 then (some (x3, f)) else (if x1 = 3 then (mm_b2 (S_X7_heatOf f (f 20 0 1)) fun r7 f6 => some (r7, f6)) else (if okI x3 10 then (some (f 32 0 x3.toNatClampNeg, f)) else none))))
set_option maxHeartbeats 4000000 in
set_option maxRecDepth 100000 in
theorem T_X7_field (G : mmG) {f f' : F3} {rv : Int32} {x1 : Int32} {x2 : Int32} {x3 : Int32} (h : S_X7_field f x1 x2 x3 = some (rv, f')) : mmM G yX7_field cX7_field 4 (some .int) 1 [.ref (ra G 20 0), .int x1, .int x2, .int x3] f (some (.int rv)) f' := by
  refine mm_start (by decide +kernel) (Nat.le_of_ble_eq_true rfl) ?_
  intro p e s m args below meth c ls C0 hR hl
  obtain ⟨hx, hb, hml, hr, hown, hts, hlocks⟩ := id C0
  have hl : lv_has ls 4 [(0, .ref (ra G 20 0)), (1, .int x1), (2, .int x2), (3, .int x3)] := hl
  rw [S_X7_field] at h
  refine lv_iload_n hx hb dX7_field_0 rfl (lv_at hl 1 rfl) ?_
  refine lv_if_ne (tgt := 13) hx hb dX7_field_1 (by decide) (fun c1 => ?_) (fun c1 => ?_)
  · rw [if_neg c1] at h
    refine lv_iload_n hx hb dX7_field_13 rfl (lv_at hl 1 rfl) ?_
    refine lv_iconst (v := 1) hx hb dX7_field_14 (by decide) ?_
    refine lv_icmp_ne (tgt := 27) hx hb dX7_field_15 (by decide) (fun c2 => ?_) (fun c2 => ?_)
    · rw [if_neg c2] at h
      refine lv_iload_n hx hb dX7_field_27 rfl (lv_at hl 1 rfl) ?_
      refine lv_iconst (v := 2) hx hb dX7_field_28 (by decide) ?_
      refine lv_icmp_ne (tgt := 36) hx hb dX7_field_29 (by decide) (fun c3 => ?_) (fun c3 => ?_)
      · rw [if_neg c3] at h
        refine lv_iload_n hx hb dX7_field_36 rfl (lv_at hl 1 rfl) ?_
        refine lv_iconst (v := 3) hx hb dX7_field_37 (by decide) ?_
        refine lv_icmp_ne (tgt := 52) hx hb dX7_field_38 (by decide) (fun c4 => ?_) (fun c4 => ?_)
        · rw [if_neg c4] at h
          refine lv_aload_n hx hb dX7_field_52 rfl (lv_at hl 0 rfl) ?_
          refine mm_get hx hb hts hown hR 20 0 5 vl_20 (v := .ref (ra G 32 0)) rfl rfl iX7 (by decide) lk_154 rfl dX7_field_53 ?_
          refine lv_iload_n hx hb dX7_field_56 rfl (lv_at hl 3 rfl) ?_
          obtain ⟨z5, h⟩ := mm_if h
          refine mm_ild hx hb hR 32 0 vl_32 (L := 10) rfl (okI_in z5) dX7_field_57 ?_
          obtain ⟨rfl, rfl⟩ := mm_pr h
          exact mm_iret C0 hR dX7_field_58
        · rw [if_pos c4] at h
          refine lv_aload_n hx hb dX7_field_41 rfl (lv_at hl 0 rfl) ?_
          refine lv_aload_n hx hb dX7_field_42 rfl (lv_at hl 0 rfl) ?_
          refine mm_get hx hb hts hown hR 20 0 1 vl_20 (v := .int (f 20 0 1)) rfl rfl iX7 (by decide) lk_157 rfl dX7_field_43 ?_
          obtain ⟨r7, f6, ef6, h⟩ := mm_b2e h
          refine mm_callV (v := some (.int r7)) (f1 := f6) (d0 := 0) (rest := []) [.int (f 20 0 1)] C0 rfl hR 20 0 (T_X7_heatOf G ef6) ws_X7_heatOf lk_158 hd_X7_heatOf ⟨by decide, by decide⟩ vl_20 rfl rfl rfl hl.1 rfl (Nat.le_of_ble_eq_true rfl) dX7_field_46 (fun H locs hR => ?_)
          refine W.eq (g2 := F0 m 49 ls (.int r7 :: [])) rfl ?_
          refine lv_goto (tgt := 58) hx hb dX7_field_49 (by decide) ?_
          obtain ⟨rfl, rfl⟩ := mm_pr h
          exact mm_iret C0 hR dX7_field_58
      · rw [if_pos c3] at h
        refine lv_iload_n hx hb dX7_field_32 rfl (lv_at hl 3 rfl) ?_
        refine lv_goto (tgt := 58) hx hb dX7_field_33 (by decide) ?_
        obtain ⟨rfl, rfl⟩ := mm_pr h
        exact mm_iret C0 hR dX7_field_58
    · rw [if_pos c2] at h
      refine lv_aload_n hx hb dX7_field_18 rfl (lv_at hl 0 rfl) ?_
      refine mm_get hx hb hts hown hR 20 0 15 vl_20 (v := .ref (ra G 41 0)) rfl rfl iX7 (by decide) lk_159 rfl dX7_field_19 ?_
      refine lv_iload_n hx hb dX7_field_22 rfl (lv_at hl 2 rfl) ?_
      obtain ⟨z8, h⟩ := mm_if h
      refine mm_ild hx hb hR 41 0 vl_41 (L := 24) rfl (okI_in z8) dX7_field_23 ?_
      refine lv_goto (tgt := 58) hx hb dX7_field_24 (by decide) ?_
      obtain ⟨rfl, rfl⟩ := mm_pr h
      exact mm_iret C0 hR dX7_field_58
  · rw [if_pos c1] at h
    refine lv_aload_n hx hb dX7_field_4 rfl (lv_at hl 0 rfl) ?_
    refine mm_get hx hb hts hown hR 20 0 14 vl_20 (v := .ref (ra G 40 0)) rfl rfl iX7 (by decide) lk_160 rfl dX7_field_5 ?_
    refine lv_iload_n hx hb dX7_field_8 rfl (lv_at hl 2 rfl) ?_
    obtain ⟨z9, h⟩ := mm_if h
    refine mm_ild hx hb hR 40 0 vl_40 (L := 24) rfl (okI_in z9) dX7_field_9 ?_
    refine lv_goto (tgt := 58) hx hb dX7_field_10 (by decide) ?_
    obtain ⟨rfl, rfl⟩ := mm_pr h
    exact mm_iret C0 hR dX7_field_58
def S_X7_holds_165 (k53 : F3 → Int32 → Int32 → Int32 → Int32 → Int32 → Int32 → Option (Int32 × F3)) (f : F3) (s0 : Int32) (s1 : Int32) (x2 : Int32) (x3 : Int32) (x4 : Int32) (x5 : Int32) (x7 : Int32) : Option (Int32 × F3) := k53 f x2 x3 x4 x5 (s0 + s1) (x7 + 1)
set_option maxHeartbeats 4000000 in
set_option maxRecDepth 100000 in
theorem L_X7_holds_165 {G : mmG} {p : Program} {e : Env} {s : State} {m : MethodId} {args : Array Value} {below : List Frame} {meth : Method} {c : Code} {f' : F3} {rv : Int32} (C0 : mmC yX7_holds cX7_holds 11 (some .boolean) p s m args meth c) {k53 : F3 → Int32 → Int32 → Int32 → Int32 → Int32 → Int32 → Option (Int32 × F3)} (hk53 : ∀ (f : F3) (x2 : Int32) (x3 : Int32) (x4 : Int32) (x5 : Int32) (x6 : Int32) (x7 : Int32), k53 f x2 x3 x4 x5 x6 x7 = some (rv, f') → ∀ (H : Heap) (locs : List Loc) (ls : Array Slot), mm_R G mm_NT f (GG f) s H locs → lv_has ls 11 [(0, .ref (ra G 20 0)), (2, .int x2), (3, .int x3), (4, .int x4), (5, .int x5), (6, .int x6), (7, .int x7)] → W p G.1 e (mm_rm 2) s m args below meth c H locs 0 0 (MQ below (mm_Q G mm_NT (some (.int rv)) f' (GG f')) args s 0 0 (mm_A G)) (F0 m 53 ls [])) {f : F3} {s0 : Int32} {s1 : Int32} {x2 : Int32} {x3 : Int32} {x4 : Int32} {x5 : Int32} {x7 : Int32} (h : S_X7_holds_165 k53 f s0 s1 x2 x3 x4 x5 x7 = some (rv, f')) (H : Heap) (locs : List Loc) (ls : Array Slot) (hR : mm_R G mm_NT f (GG f) s H locs) (hl : lv_has ls 11 [(0, .ref (ra G 20 0)), (2, .int x2), (3, .int x3), (4, .int x4), (5, .int x5), (7, .int x7)]) : W p G.1 e (mm_rm 2) s m args below meth c H locs 0 0 (MQ below (mm_Q G mm_NT (some (.int rv)) f' (GG f')) args s 0 0 (mm_A G)) (F0 m 165 ls [.int s1, .int s0]) := by
  obtain ⟨hx, hb, hml, hr, hown, hts, hlocks⟩ := id C0
  rw [S_X7_holds_165] at h
  refine lv_iadd hx hb dX7_holds_165 ?_
  refine lv_istore (lv' := [(6, .int (s0 + s1)), (0, .ref (ra G 20 0)), (2, .int x2), (3, .int x3), (4, .int x4), (5, .int x5), (7, .int x7)]) hx hb dX7_holds_166 hl (by decide) rfl (fun ls hl => ?_)
  refine lv_iinc (v := x7 + 1) (lv' := [(7, .int (x7 + 1)), (6, .int (s0 + s1)), (0, .ref (ra G 20 0)), (2, .int x2), (3, .int x3), (4, .int x4), (5, .int x5)]) hx hb dX7_holds_168 hl (k := 6) rfl rfl (by decide) rfl (fun ls hl => ?_)
  refine lv_goto (tgt := 53) hx hb dX7_holds_171 (by decide) ?_
  exact hk53 _ x2 x3 x4 x5 (s0 + s1) (x7 + 1)  h _ _ _ hR (lv_sub hl [2, 3, 4, 5, 6, 1, 0] rfl)
def S_X7_holds_164 (k53 : F3 → Int32 → Int32 → Int32 → Int32 → Int32 → Int32 → Option (Int32 × F3)) (f : F3) (s0 : Int32) (x2 : Int32) (x3 : Int32) (x4 : Int32) (x5 : Int32) (x7 : Int32) : Option (Int32 × F3) := S_X7_holds_165 k53 f s0 0 x2 x3 x4 x5 x7
set_option maxHeartbeats 4000000 in
set_option maxRecDepth 100000 in
theorem L_X7_holds_164 {G : mmG} {p : Program} {e : Env} {s : State} {m : MethodId} {args : Array Value} {below : List Frame} {meth : Method} {c : Code} {f' : F3} {rv : Int32} (C0 : mmC yX7_holds cX7_holds 11 (some .boolean) p s m args meth c) {k53 : F3 → Int32 → Int32 → Int32 → Int32 → Int32 → Int32 → Option (Int32 × F3)} (hk53 : ∀ (f : F3) (x2 : Int32) (x3 : Int32) (x4 : Int32) (x5 : Int32) (x6 : Int32) (x7 : Int32), k53 f x2 x3 x4 x5 x6 x7 = some (rv, f') → ∀ (H : Heap) (locs : List Loc) (ls : Array Slot), mm_R G mm_NT f (GG f) s H locs → lv_has ls 11 [(0, .ref (ra G 20 0)), (2, .int x2), (3, .int x3), (4, .int x4), (5, .int x5), (6, .int x6), (7, .int x7)] → W p G.1 e (mm_rm 2) s m args below meth c H locs 0 0 (MQ below (mm_Q G mm_NT (some (.int rv)) f' (GG f')) args s 0 0 (mm_A G)) (F0 m 53 ls [])) {f : F3} {s0 : Int32} {x2 : Int32} {x3 : Int32} {x4 : Int32} {x5 : Int32} {x7 : Int32} (h : S_X7_holds_164 k53 f s0 x2 x3 x4 x5 x7 = some (rv, f')) (H : Heap) (locs : List Loc) (ls : Array Slot) (hR : mm_R G mm_NT f (GG f) s H locs) (hl : lv_has ls 11 [(0, .ref (ra G 20 0)), (2, .int x2), (3, .int x3), (4, .int x4), (5, .int x5), (7, .int x7)]) : W p G.1 e (mm_rm 2) s m args below meth c H locs 0 0 (MQ below (mm_Q G mm_NT (some (.int rv)) f' (GG f')) args s 0 0 (mm_A G)) (F0 m 164 ls [.int s0]) := by
  obtain ⟨hx, hb, hml, hr, hown, hts, hlocks⟩ := id C0
  rw [S_X7_holds_164] at h
  refine lv_iconst (v := 0) hx hb dX7_holds_164 (by decide) ?_
  exact L_X7_holds_165 C0 hk53 h _ _ _ hR (lv_sub hl [0, 1, 2, 3, 4, 5] rfl)
def S_X7_holds_160 (k53 : F3 → Int32 → Int32 → Int32 → Int32 → Int32 → Int32 → Option (Int32 × F3)) (f : F3) (s0 : Int32) (x2 : Int32) (x3 : Int32) (x4 : Int32) (x5 : Int32) (x7 : Int32) : Option (Int32 × F3) := S_X7_holds_165 k53 f s0 1 x2 x3 x4 x5 x7
set_option maxHeartbeats 4000000 in
set_option maxRecDepth 100000 in
theorem L_X7_holds_160 {G : mmG} {p : Program} {e : Env} {s : State} {m : MethodId} {args : Array Value} {below : List Frame} {meth : Method} {c : Code} {f' : F3} {rv : Int32} (C0 : mmC yX7_holds cX7_holds 11 (some .boolean) p s m args meth c) {k53 : F3 → Int32 → Int32 → Int32 → Int32 → Int32 → Int32 → Option (Int32 × F3)} (hk53 : ∀ (f : F3) (x2 : Int32) (x3 : Int32) (x4 : Int32) (x5 : Int32) (x6 : Int32) (x7 : Int32), k53 f x2 x3 x4 x5 x6 x7 = some (rv, f') → ∀ (H : Heap) (locs : List Loc) (ls : Array Slot), mm_R G mm_NT f (GG f) s H locs → lv_has ls 11 [(0, .ref (ra G 20 0)), (2, .int x2), (3, .int x3), (4, .int x4), (5, .int x5), (6, .int x6), (7, .int x7)] → W p G.1 e (mm_rm 2) s m args below meth c H locs 0 0 (MQ below (mm_Q G mm_NT (some (.int rv)) f' (GG f')) args s 0 0 (mm_A G)) (F0 m 53 ls [])) {f : F3} {s0 : Int32} {x2 : Int32} {x3 : Int32} {x4 : Int32} {x5 : Int32} {x7 : Int32} (h : S_X7_holds_160 k53 f s0 x2 x3 x4 x5 x7 = some (rv, f')) (H : Heap) (locs : List Loc) (ls : Array Slot) (hR : mm_R G mm_NT f (GG f) s H locs) (hl : lv_has ls 11 [(0, .ref (ra G 20 0)), (2, .int x2), (3, .int x3), (4, .int x4), (5, .int x5), (7, .int x7)]) : W p G.1 e (mm_rm 2) s m args below meth c H locs 0 0 (MQ below (mm_Q G mm_NT (some (.int rv)) f' (GG f')) args s 0 0 (mm_A G)) (F0 m 160 ls [.int s0]) := by
  obtain ⟨hx, hb, hml, hr, hown, hts, hlocks⟩ := id C0
  rw [S_X7_holds_160] at h
  refine lv_iconst (v := 1) hx hb dX7_holds_160 (by decide) ?_
  refine lv_goto (tgt := 165) hx hb dX7_holds_161 (by decide) ?_
  exact L_X7_holds_165 C0 hk53 h _ _ _ hR (lv_sub hl [0, 1, 2, 3, 4, 5] rfl)
def S_X7_holds_53 : Nat → F3 → Int32 → Int32 → Int32 → Int32 → Int32 → Int32 → Option (Int32 × F3)
  | 0, _, _, _, _, _, _, _ => none
  | n + 1, f, x2, x3, x4, x5, x6, x7 => if x5 ≤ x7 then (if okI (x4 + 5) 150 then (if (f 23 0 (x4 + 5).toNatClampNeg) = 1 then (if x6 ≤ 0 then (some (0, f)) else (some (1, f))) else (if x6 = x5 then (some (1, f)) else (some (0, f)))) else none) else (if okI ((x4 + 6) + (3 * x7)) 150 then (mm_b2 (S_X7_field f (f 23 0 ((x4 + 6) + (3 * x7)).toNatClampNeg) x2 x3) fun r14 f13 => if okI ((x4 + 7) + (3 * x7)) 150 then (if okI ((x4 + 8) + (3 * x7)) 150 then (if (f13 23 0 ((x4 + 7) + (3 * x7)).toNatClampNeg) = 61 then (if r14 = (f13 23 0 ((x4 + 8) + (3 * x7)).toNatClampNeg) then (S_X7_holds_160 (fun f9 x2_ x3_ x4_ x5_ x6_ x7_ => S_X7_holds_53 n f9 x2_ x3_ x4_ x5_ x6_ x7_) f13 x6 x2 x3 x4 x5 x7) else (S_X7_holds_164 (fun f9 x2_ x3_ x4_ x5_ x6_ x7_ => S_X7_holds_53 n f9 x2_ x3_ x4_ x5_ x6_ x7_) f13 x6 x2 x3 x4 x5 x7)) else (if (f13 23 0 ((x4 + 7) + (3 * x7)).toNatClampNeg) = 60 then (if (f13 23 0 ((x4 + 8) + (3 * x7)).toNatClampNeg) ≤ r14 then (S_X7_holds_164 (fun f9 x2_ x3_ x4_ x5_ x6_ x7_ => S_X7_holds_53 n f9 x2_ x3_ x4_ x5_ x6_ x7_) f13 x6 x2 x3 x4 x5 x7) else (S_X7_holds_160 (fun f9 x2_ x3_ x4_ x5_ x6_ x7_ => S_X7_holds_53 n f9 x2_ x3_ x4_ x5_ x6_ x7_) f13 x6 x2 x3 x4 x5 x7)) else (if r14 ≤ (f13 23 0 ((x4 + 8) + (3 * x7)).toNatClampNeg) then (S_X7_holds_164 (fun f9 x2_ x3_ x4_ x5_ x6_ x7_ => S_X7_holds_53 n f9 x2_ x3_ x4_ x5_ x6_ x7_) f13 x6 x2 x3 x4 x5 x7) else (S_X7_holds_160 (fun f9 x2_ x3_ x4_ x5_ x6_ x7_ => S_X7_holds_53 n f9 x2_ x3_ x4_ x5_ x6_ x7_) f13 x6 x2 x3 x4 x5 x7)))) else none) else none) else none)
set_option maxHeartbeats 4000000 in
set_option maxRecDepth 100000 in
theorem L_X7_holds_53 {G : mmG} {p : Program} {e : Env} {s : State} {m : MethodId} {args : Array Value} {below : List Frame} {meth : Method} {c : Code} {f' : F3} {rv : Int32} (C0 : mmC yX7_holds cX7_holds 11 (some .boolean) p s m args meth c) : ∀ (n : Nat) {f : F3} {x2 : Int32} {x3 : Int32} {x4 : Int32} {x5 : Int32} {x6 : Int32} {x7 : Int32} , S_X7_holds_53 n f x2 x3 x4 x5 x6 x7 = some (rv, f') → ∀ (H : Heap) (locs : List Loc) (ls : Array Slot), mm_R G mm_NT f (GG f) s H locs → lv_has ls 11 [(0, .ref (ra G 20 0)), (2, .int x2), (3, .int x3), (4, .int x4), (5, .int x5), (6, .int x6), (7, .int x7)] → W p G.1 e (mm_rm 2) s m args below meth c H locs 0 0 (MQ below (mm_Q G mm_NT (some (.int rv)) f' (GG f')) args s 0 0 (mm_A G)) (F0 m 53 ls []) := by
  obtain ⟨hx, hb, hml, hr, hown, hts, hlocks⟩ := id C0
  intro n
  induction n with
  | zero =>
    intro f x2 x3 x4 x5 x6 x7  h H locs ls hR hl
    cases h
  | succ n ih =>
    intro f x2 x3 x4 x5 x6 x7  h H locs ls hR hl
    rw [S_X7_holds_53] at h
    refine lv_iload hx hb dX7_holds_53 (lv_at hl 6 rfl) ?_
    refine lv_iload hx hb dX7_holds_55 (lv_at hl 4 rfl) ?_
    refine lv_icmp_ge (tgt := 174) hx hb dX7_holds_57 (by decide) (fun c7 => ?_) (fun c7 => ?_)
    · rw [if_pos c7] at h
      refine lv_aload_n hx hb dX7_holds_174 rfl (lv_at hl 0 rfl) ?_
      refine mm_get hx hb hts hown hR 20 0 22 vl_20 (v := .ref (ra G 23 0)) rfl rfl iX7 (by decide) lk_161 rfl dX7_holds_175 ?_
      refine lv_iload hx hb dX7_holds_178 (lv_at hl 3 rfl) ?_
      refine lv_iconst (v := 5) hx hb dX7_holds_180 (by decide) ?_
      refine lv_iadd hx hb dX7_holds_181 ?_
      obtain ⟨z8, h⟩ := mm_if h
      refine mm_ild hx hb hR 23 0 vl_23 (L := 150) rfl (okI_in z8) dX7_holds_182 ?_
      refine lv_iconst (v := 1) hx hb dX7_holds_183 (by decide) ?_
      refine lv_icmp_ne (tgt := 200) hx hb dX7_holds_184 (by decide) (fun c9 => ?_) (fun c9 => ?_)
      · rw [if_neg c9] at h
        refine lv_iload hx hb dX7_holds_200 (lv_at hl 5 rfl) ?_
        refine lv_iload hx hb dX7_holds_202 (lv_at hl 4 rfl) ?_
        refine lv_icmp_ne (tgt := 211) hx hb dX7_holds_204 (by decide) (fun c10 => ?_) (fun c10 => ?_)
        · rw [if_neg c10] at h
          refine lv_iconst (v := 0) hx hb dX7_holds_211 (by decide) ?_
          obtain ⟨rfl, rfl⟩ := mm_pr h
          exact mm_zret C0 rfl hR dX7_holds_212
        · rw [if_pos c10] at h
          refine lv_iconst (v := 1) hx hb dX7_holds_207 (by decide) ?_
          refine lv_goto (tgt := 212) hx hb dX7_holds_208 (by decide) ?_
          obtain ⟨rfl, rfl⟩ := mm_pr h
          exact mm_zret C0 rfl hR dX7_holds_212
      · rw [if_pos c9] at h
        refine lv_iload hx hb dX7_holds_187 (lv_at hl 5 rfl) ?_
        refine lv_if_le (tgt := 196) hx hb dX7_holds_189 (by decide) (fun c11 => ?_) (fun c11 => ?_)
        · rw [if_pos c11] at h
          refine lv_iconst (v := 0) hx hb dX7_holds_196 (by decide) ?_
          refine lv_goto (tgt := 212) hx hb dX7_holds_197 (by decide) ?_
          obtain ⟨rfl, rfl⟩ := mm_pr h
          exact mm_zret C0 rfl hR dX7_holds_212
        · rw [if_neg c11] at h
          refine lv_iconst (v := 1) hx hb dX7_holds_192 (by decide) ?_
          refine lv_goto (tgt := 212) hx hb dX7_holds_193 (by decide) ?_
          obtain ⟨rfl, rfl⟩ := mm_pr h
          exact mm_zret C0 rfl hR dX7_holds_212
    · rw [if_neg c7] at h
      refine lv_aload_n hx hb dX7_holds_60 rfl (lv_at hl 0 rfl) ?_
      refine lv_aload_n hx hb dX7_holds_61 rfl (lv_at hl 0 rfl) ?_
      refine mm_get hx hb hts hown hR 20 0 22 vl_20 (v := .ref (ra G 23 0)) rfl rfl iX7 (by decide) lk_161 rfl dX7_holds_62 ?_
      refine lv_iload hx hb dX7_holds_65 (lv_at hl 3 rfl) ?_
      refine lv_bipush (v := 6) hx hb dX7_holds_67 (by decide) ?_
      refine lv_iadd hx hb dX7_holds_69 ?_
      refine lv_iconst (v := 3) hx hb dX7_holds_70 (by decide) ?_
      refine lv_iload hx hb dX7_holds_71 (lv_at hl 6 rfl) ?_
      refine lv_imul hx hb dX7_holds_73 ?_
      refine lv_iadd hx hb dX7_holds_74 ?_
      obtain ⟨z12, h⟩ := mm_if h
      refine mm_ild hx hb hR 23 0 vl_23 (L := 150) rfl (okI_in z12) dX7_holds_75 ?_
      refine lv_iload_n hx hb dX7_holds_76 rfl (lv_at hl 1 rfl) ?_
      refine lv_iload_n hx hb dX7_holds_77 rfl (lv_at hl 2 rfl) ?_
      obtain ⟨r14, f13, ef13, h⟩ := mm_b2e h
      refine mm_callV (v := some (.int r14)) (f1 := f13) (d0 := 1) (rest := []) [.int (f 23 0 ((x4 + 6) + (3 * x7)).toNatClampNeg), .int x2, .int x3] C0 rfl hR 20 0 (T_X7_field G ef13) ws_X7_field lk_162 hd_X7_field ⟨by decide, by decide⟩ vl_20 rfl rfl rfl hl.1 rfl (Nat.le_of_ble_eq_true rfl) dX7_holds_78 (fun H locs hR => ?_)
      refine W.eq (g2 := F0 m 81 ls (.int r14 :: [])) rfl ?_
      refine lv_istore (lv' := [(8, .int r14), (0, .ref (ra G 20 0)), (2, .int x2), (3, .int x3), (4, .int x4), (5, .int x5), (6, .int x6), (7, .int x7)]) hx hb dX7_holds_81 hl (by decide) rfl (fun ls hl => ?_)
      refine lv_aload_n hx hb dX7_holds_83 rfl (lv_at hl 1 rfl) ?_
      refine mm_get hx hb hts hown hR 20 0 22 vl_20 (v := .ref (ra G 23 0)) rfl rfl iX7 (by decide) lk_161 rfl dX7_holds_84 ?_
      refine lv_iload hx hb dX7_holds_87 (lv_at hl 4 rfl) ?_
      refine lv_bipush (v := 7) hx hb dX7_holds_89 (by decide) ?_
      refine lv_iadd hx hb dX7_holds_91 ?_
      refine lv_iconst (v := 3) hx hb dX7_holds_92 (by decide) ?_
      refine lv_iload hx hb dX7_holds_93 (lv_at hl 7 rfl) ?_
      refine lv_imul hx hb dX7_holds_95 ?_
      refine lv_iadd hx hb dX7_holds_96 ?_
      obtain ⟨z15, h⟩ := mm_if h
      refine mm_ild hx hb hR 23 0 vl_23 (L := 150) rfl (okI_in z15) dX7_holds_97 ?_
      refine lv_istore (lv' := [(9, .int (f13 23 0 ((x4 + 7) + (3 * x7)).toNatClampNeg)), (8, .int r14), (0, .ref (ra G 20 0)), (2, .int x2), (3, .int x3), (4, .int x4), (5, .int x5), (6, .int x6), (7, .int x7)]) hx hb dX7_holds_98 hl (by decide) rfl (fun ls hl => ?_)
      refine lv_aload_n hx hb dX7_holds_100 rfl (lv_at hl 2 rfl) ?_
      refine mm_get hx hb hts hown hR 20 0 22 vl_20 (v := .ref (ra G 23 0)) rfl rfl iX7 (by decide) lk_161 rfl dX7_holds_101 ?_
      refine lv_iload hx hb dX7_holds_104 (lv_at hl 5 rfl) ?_
      refine lv_bipush (v := 8) hx hb dX7_holds_106 (by decide) ?_
      refine lv_iadd hx hb dX7_holds_108 ?_
      refine lv_iconst (v := 3) hx hb dX7_holds_109 (by decide) ?_
      refine lv_iload hx hb dX7_holds_110 (lv_at hl 8 rfl) ?_
      refine lv_imul hx hb dX7_holds_112 ?_
      refine lv_iadd hx hb dX7_holds_113 ?_
      obtain ⟨z16, h⟩ := mm_if h
      refine mm_ild hx hb hR 23 0 vl_23 (L := 150) rfl (okI_in z16) dX7_holds_114 ?_
      refine lv_istore (lv' := [(10, .int (f13 23 0 ((x4 + 8) + (3 * x7)).toNatClampNeg)), (9, .int (f13 23 0 ((x4 + 7) + (3 * x7)).toNatClampNeg)), (8, .int r14), (0, .ref (ra G 20 0)), (2, .int x2), (3, .int x3), (4, .int x4), (5, .int x5), (6, .int x6), (7, .int x7)]) hx hb dX7_holds_115 hl (by decide) rfl (fun ls hl => ?_)
      refine lv_iload hx hb dX7_holds_117 (lv_at hl 8 rfl) ?_
      refine lv_iload hx hb dX7_holds_119 (lv_at hl 1 rfl) ?_
      refine lv_bipush (v := 61) hx hb dX7_holds_121 (by decide) ?_
      refine lv_icmp_ne (tgt := 136) hx hb dX7_holds_123 (by decide) (fun c17 => ?_) (fun c17 => ?_)
      · rw [if_neg c17] at h
        refine lv_iload hx hb dX7_holds_136 (lv_at hl 1 rfl) ?_
        refine lv_bipush (v := 60) hx hb dX7_holds_138 (by decide) ?_
        refine lv_icmp_ne (tgt := 153) hx hb dX7_holds_140 (by decide) (fun c18 => ?_) (fun c18 => ?_)
        · rw [if_neg c18] at h
          refine lv_iload hx hb dX7_holds_153 (lv_at hl 2 rfl) ?_
          refine lv_iload hx hb dX7_holds_155 (lv_at hl 0 rfl) ?_
          refine lv_icmp_le (tgt := 164) hx hb dX7_holds_157 (by decide) (fun c19 => ?_) (fun c19 => ?_)
          · rw [if_pos c19] at h
            exact L_X7_holds_164 C0 (fun _ _ _ _ _ _ _ h9 H9 locs9 ls9 hR9 hl9 => ih h9 _ _ _ hR9 hl9) h _ _ _ hR (lv_sub hl [3, 4, 5, 6, 7, 9] rfl)
          · rw [if_neg c19] at h
            exact L_X7_holds_160 C0 (fun _ _ _ _ _ _ _ h9 H9 locs9 ls9 hR9 hl9 => ih h9 _ _ _ hR9 hl9) h _ _ _ hR (lv_sub hl [3, 4, 5, 6, 7, 9] rfl)
        · rw [if_pos c18] at h
          refine lv_iload hx hb dX7_holds_143 (lv_at hl 2 rfl) ?_
          refine lv_iload hx hb dX7_holds_145 (lv_at hl 0 rfl) ?_
          refine lv_icmp_ge (tgt := 164) hx hb dX7_holds_147 (by decide) (fun c20 => ?_) (fun c20 => ?_)
          · rw [if_pos c20] at h
            exact L_X7_holds_164 C0 (fun _ _ _ _ _ _ _ h9 H9 locs9 ls9 hR9 hl9 => ih h9 _ _ _ hR9 hl9) h _ _ _ hR (lv_sub hl [3, 4, 5, 6, 7, 9] rfl)
          · rw [if_neg c20] at h
            refine lv_goto (tgt := 160) hx hb dX7_holds_150 (by decide) ?_
            exact L_X7_holds_160 C0 (fun _ _ _ _ _ _ _ h9 H9 locs9 ls9 hR9 hl9 => ih h9 _ _ _ hR9 hl9) h _ _ _ hR (lv_sub hl [3, 4, 5, 6, 7, 9] rfl)
      · rw [if_pos c17] at h
        refine lv_iload hx hb dX7_holds_126 (lv_at hl 2 rfl) ?_
        refine lv_iload hx hb dX7_holds_128 (lv_at hl 0 rfl) ?_
        refine lv_icmp_ne (tgt := 164) hx hb dX7_holds_130 (by decide) (fun c21 => ?_) (fun c21 => ?_)
        · rw [if_neg c21] at h
          exact L_X7_holds_164 C0 (fun _ _ _ _ _ _ _ h9 H9 locs9 ls9 hR9 hl9 => ih h9 _ _ _ hR9 hl9) h _ _ _ hR (lv_sub hl [3, 4, 5, 6, 7, 9] rfl)
        · rw [if_pos c21] at h
          refine lv_goto (tgt := 160) hx hb dX7_holds_133 (by decide) ?_
          exact L_X7_holds_160 C0 (fun _ _ _ _ _ _ _ h9 H9 locs9 ls9 hR9 hl9 => ih h9 _ _ _ hR9 hl9) h _ _ _ hR (lv_sub hl [3, 4, 5, 6, 7, 9] rfl)
def S_X7_holds (f : F3) (x1 : Int32) (x2 : Int32) (x3 : Int32) : Option (Int32 × F3) := if okI (15 * x1) 150 then (if okI ((15 * x1) + 1) 150 then (mm_b2 (S_X7_in f (f 20 0 1) (f 23 0 (15 * x1).toNatClampNeg) ((f 23 0 ((15 * x1) + 1).toNatClampNeg) - 1)) fun r4 f3 => if r4 = 0 then (some (0, f3)) else (if okI ((15 * x1) + 4) 150 then (S_X7_holds_53 FU f3 x2 x3 (15 * x1) (f3 23 0 ((15 * x1) + 4).toNatClampNeg) 0 0) else none)) else none) else none
set_option maxHeartbeats 4000000 in
set_option maxRecDepth 100000 in
theorem T_X7_holds (G : mmG) {f f' : F3} {rv : Int32} {x1 : Int32} {x2 : Int32} {x3 : Int32} (h : S_X7_holds f x1 x2 x3 = some (rv, f')) : mmM G yX7_holds cX7_holds 11 (some .boolean) 2 [.ref (ra G 20 0), .int x1, .int x2, .int x3] f (some (.int rv)) f' := by
  refine mm_start (by decide +kernel) (Nat.le_of_ble_eq_true rfl) ?_
  intro p e s m args below meth c ls C0 hR hl
  obtain ⟨hx, hb, hml, hr, hown, hts, hlocks⟩ := id C0
  have hl : lv_has ls 11 [(0, .ref (ra G 20 0)), (1, .int x1), (2, .int x2), (3, .int x3)] := hl
  rw [S_X7_holds] at h
  refine lv_bipush (v := 15) hx hb dX7_holds_0 (by decide) ?_
  refine lv_iload_n hx hb dX7_holds_2 rfl (lv_at hl 1 rfl) ?_
  refine lv_imul hx hb dX7_holds_3 ?_
  refine lv_istore (lv' := [(4, .int (15 * x1)), (0, .ref (ra G 20 0)), (1, .int x1), (2, .int x2), (3, .int x3)]) hx hb dX7_holds_4 hl (by decide) rfl (fun ls hl => ?_)
  refine lv_aload_n hx hb dX7_holds_6 rfl (lv_at hl 1 rfl) ?_
  refine mm_get hx hb hts hown hR 20 0 1 vl_20 (v := .int (f 20 0 1)) rfl rfl iX7 (by decide) lk_157 rfl dX7_holds_7 ?_
  refine lv_aload_n hx hb dX7_holds_10 rfl (lv_at hl 1 rfl) ?_
  refine mm_get hx hb hts hown hR 20 0 22 vl_20 (v := .ref (ra G 23 0)) rfl rfl iX7 (by decide) lk_161 rfl dX7_holds_11 ?_
  refine lv_iload hx hb dX7_holds_14 (lv_at hl 0 rfl) ?_
  obtain ⟨z1, h⟩ := mm_if h
  refine mm_ild hx hb hR 23 0 vl_23 (L := 150) rfl (okI_in z1) dX7_holds_16 ?_
  refine lv_aload_n hx hb dX7_holds_17 rfl (lv_at hl 1 rfl) ?_
  refine mm_get hx hb hts hown hR 20 0 22 vl_20 (v := .ref (ra G 23 0)) rfl rfl iX7 (by decide) lk_161 rfl dX7_holds_18 ?_
  refine lv_iload hx hb dX7_holds_21 (lv_at hl 0 rfl) ?_
  refine lv_iconst (v := 1) hx hb dX7_holds_23 (by decide) ?_
  refine lv_iadd hx hb dX7_holds_24 ?_
  obtain ⟨z2, h⟩ := mm_if h
  refine mm_ild hx hb hR 23 0 vl_23 (L := 150) rfl (okI_in z2) dX7_holds_25 ?_
  refine lv_iconst (v := 1) hx hb dX7_holds_26 (by decide) ?_
  refine lv_isub hx hb dX7_holds_27 ?_
  obtain ⟨r4, f3, ef3, h⟩ := mm_b2e h
  refine mm_callS (v := some (.int r4)) (f1 := f3) (d0 := 0) (rest := []) [.int (f 20 0 1), .int (f 23 0 (15 * x1).toNatClampNeg), .int ((f 23 0 ((15 * x1) + 1).toNatClampNeg) - 1)] C0 rfl hR (T_X7_in G ef3) ws_X7_in lk_144 hd_X7_in ⟨by decide, by decide⟩ hl.1 rfl (Nat.le_of_ble_eq_true rfl) dX7_holds_28 (fun H locs hR => ?_)
  refine W.eq (g2 := F0 m 31 ls (.int r4 :: [])) rfl ?_
  refine lv_if_ne (tgt := 36) hx hb dX7_holds_31 (by decide) (fun c5 => ?_) (fun c5 => ?_)
  · rw [if_neg c5] at h
    refine lv_aload_n hx hb dX7_holds_36 rfl (lv_at hl 1 rfl) ?_
    refine mm_get hx hb hts hown hR 20 0 22 vl_20 (v := .ref (ra G 23 0)) rfl rfl iX7 (by decide) lk_161 rfl dX7_holds_37 ?_
    refine lv_iload hx hb dX7_holds_40 (lv_at hl 0 rfl) ?_
    refine lv_iconst (v := 4) hx hb dX7_holds_42 (by decide) ?_
    refine lv_iadd hx hb dX7_holds_43 ?_
    obtain ⟨z6, h⟩ := mm_if h
    refine mm_ild hx hb hR 23 0 vl_23 (L := 150) rfl (okI_in z6) dX7_holds_44 ?_
    refine lv_istore (lv' := [(5, .int (f3 23 0 ((15 * x1) + 4).toNatClampNeg)), (4, .int (15 * x1)), (0, .ref (ra G 20 0)), (1, .int x1), (2, .int x2), (3, .int x3)]) hx hb dX7_holds_45 hl (by decide) rfl (fun ls hl => ?_)
    refine lv_iconst (v := 0) hx hb dX7_holds_47 (by decide) ?_
    refine lv_istore (lv' := [(6, .int 0), (5, .int (f3 23 0 ((15 * x1) + 4).toNatClampNeg)), (4, .int (15 * x1)), (0, .ref (ra G 20 0)), (1, .int x1), (2, .int x2), (3, .int x3)]) hx hb dX7_holds_48 hl (by decide) rfl (fun ls hl => ?_)
    refine lv_iconst (v := 0) hx hb dX7_holds_50 (by decide) ?_
    refine lv_istore (lv' := [(7, .int 0), (6, .int 0), (5, .int (f3 23 0 ((15 * x1) + 4).toNatClampNeg)), (4, .int (15 * x1)), (0, .ref (ra G 20 0)), (1, .int x1), (2, .int x2), (3, .int x3)]) hx hb dX7_holds_51 hl (by decide) rfl (fun ls hl => ?_)
    exact L_X7_holds_53 C0 _ h _ _ _ hR (lv_sub hl [4, 6, 7, 3, 2, 1, 0] rfl)
  · rw [if_pos c5] at h
    refine lv_iconst (v := 0) hx hb dX7_holds_34 (by decide) ?_
    obtain ⟨rfl, rfl⟩ := mm_pr h
    exact mm_zret C0 rfl hR dX7_holds_35
def S_X7_saidOf_53 (k8 : F3 → Int32 → Int32 → Int32 → Int32 → Option (Int32 × F3)) (f : F3) (x1 : Int32) (x2 : Int32) (x3 : Int32) (x4 : Int32) : Option (Int32 × F3) := k8 f x1 x2 x3 (x4 + (-1))
set_option maxHeartbeats 4000000 in
set_option maxRecDepth 100000 in
theorem L_X7_saidOf_53 {G : mmG} {p : Program} {e : Env} {s : State} {m : MethodId} {args : Array Value} {below : List Frame} {meth : Method} {c : Code} {f' : F3} {rv : Int32} (C0 : mmC yX7_saidOf cX7_saidOf 5 (some .int) p s m args meth c) {k8 : F3 → Int32 → Int32 → Int32 → Int32 → Option (Int32 × F3)} (hk8 : ∀ (f : F3) (x1 : Int32) (x2 : Int32) (x3 : Int32) (x4 : Int32), k8 f x1 x2 x3 x4 = some (rv, f') → ∀ (H : Heap) (locs : List Loc) (ls : Array Slot), mm_R G mm_NT f (GG f) s H locs → lv_has ls 5 [(0, .ref (ra G 20 0)), (1, .int x1), (2, .int x2), (3, .int x3), (4, .int x4)] → W p G.1 e (mm_rm 3) s m args below meth c H locs 0 0 (MQ below (mm_Q G mm_NT (some (.int rv)) f' (GG f')) args s 0 0 (mm_A G)) (F0 m 8 ls [])) {f : F3} {x1 : Int32} {x2 : Int32} {x3 : Int32} {x4 : Int32} (h : S_X7_saidOf_53 k8 f x1 x2 x3 x4 = some (rv, f')) (H : Heap) (locs : List Loc) (ls : Array Slot) (hR : mm_R G mm_NT f (GG f) s H locs) (hl : lv_has ls 5 [(0, .ref (ra G 20 0)), (1, .int x1), (2, .int x2), (3, .int x3), (4, .int x4)]) : W p G.1 e (mm_rm 3) s m args below meth c H locs 0 0 (MQ below (mm_Q G mm_NT (some (.int rv)) f' (GG f')) args s 0 0 (mm_A G)) (F0 m 53 ls []) := by
  obtain ⟨hx, hb, hml, hr, hown, hts, hlocks⟩ := id C0
  rw [S_X7_saidOf_53] at h
  refine lv_iinc (v := x4 + (-1)) (lv' := [(4, .int (x4 + (-1))), (0, .ref (ra G 20 0)), (1, .int x1), (2, .int x2), (3, .int x3)]) hx hb dX7_saidOf_53 hl (k := 4) rfl rfl (by decide) rfl (fun ls hl => ?_)
  refine lv_goto (tgt := 8) hx hb dX7_saidOf_56 (by decide) ?_
  exact hk8 _ x1 x2 x3 (x4 + (-1))  h _ _ _ hR (lv_sub hl [1, 2, 3, 4, 0] rfl)
def S_X7_saidOf_8 : Nat → F3 → Int32 → Int32 → Int32 → Int32 → Option (Int32 × F3)
  | 0, _, _, _, _, _ => none
  | n + 1, f, x1, x2, x3, x4 => if x4 < 0 then (if x3 = 1 then (some (1, f)) else (some (0, f))) else (if okI ((15 * x4) + 2) 150 then (if (f 23 0 ((15 * x4) + 2).toNatClampNeg) = x3 then (mm_b2 (S_X7_holds f x4 x1 x2) fun r6 f5 => if r6 = 0 then (S_X7_saidOf_53 (fun f9 x1_ x2_ x3_ x4_ => S_X7_saidOf_8 n f9 x1_ x2_ x3_ x4_) f5 x1 x2 x3 x4) else (if okI ((15 * x4) + 3) 150 then (some (f5 23 0 ((15 * x4) + 3).toNatClampNeg, f5)) else none)) else (S_X7_saidOf_53 (fun f9 x1_ x2_ x3_ x4_ => S_X7_saidOf_8 n f9 x1_ x2_ x3_ x4_) f x1 x2 x3 x4)) else none)
set_option maxHeartbeats 4000000 in
set_option maxRecDepth 100000 in
theorem L_X7_saidOf_8 {G : mmG} {p : Program} {e : Env} {s : State} {m : MethodId} {args : Array Value} {below : List Frame} {meth : Method} {c : Code} {f' : F3} {rv : Int32} (C0 : mmC yX7_saidOf cX7_saidOf 5 (some .int) p s m args meth c) : ∀ (n : Nat) {f : F3} {x1 : Int32} {x2 : Int32} {x3 : Int32} {x4 : Int32} , S_X7_saidOf_8 n f x1 x2 x3 x4 = some (rv, f') → ∀ (H : Heap) (locs : List Loc) (ls : Array Slot), mm_R G mm_NT f (GG f) s H locs → lv_has ls 5 [(0, .ref (ra G 20 0)), (1, .int x1), (2, .int x2), (3, .int x3), (4, .int x4)] → W p G.1 e (mm_rm 3) s m args below meth c H locs 0 0 (MQ below (mm_Q G mm_NT (some (.int rv)) f' (GG f')) args s 0 0 (mm_A G)) (F0 m 8 ls []) := by
  obtain ⟨hx, hb, hml, hr, hown, hts, hlocks⟩ := id C0
  intro n
  induction n with
  | zero =>
    intro f x1 x2 x3 x4  h H locs ls hR hl
    cases h
  | succ n ih =>
    intro f x1 x2 x3 x4  h H locs ls hR hl
    rw [S_X7_saidOf_8] at h
    refine lv_iload hx hb dX7_saidOf_8 (lv_at hl 4 rfl) ?_
    refine lv_if_lt (tgt := 59) hx hb dX7_saidOf_10 (by decide) (fun c1 => ?_) (fun c1 => ?_)
    · rw [if_pos c1] at h
      refine lv_iload_n hx hb dX7_saidOf_59 rfl (lv_at hl 3 rfl) ?_
      refine lv_iconst (v := 1) hx hb dX7_saidOf_60 (by decide) ?_
      refine lv_icmp_ne (tgt := 68) hx hb dX7_saidOf_61 (by decide) (fun c2 => ?_) (fun c2 => ?_)
      · rw [if_neg c2] at h
        refine lv_iconst (v := 0) hx hb dX7_saidOf_68 (by decide) ?_
        obtain ⟨rfl, rfl⟩ := mm_pr h
        exact mm_iret C0 hR dX7_saidOf_69
      · rw [if_pos c2] at h
        refine lv_iconst (v := 1) hx hb dX7_saidOf_64 (by decide) ?_
        refine lv_goto (tgt := 69) hx hb dX7_saidOf_65 (by decide) ?_
        obtain ⟨rfl, rfl⟩ := mm_pr h
        exact mm_iret C0 hR dX7_saidOf_69
    · rw [if_neg c1] at h
      refine lv_aload_n hx hb dX7_saidOf_13 rfl (lv_at hl 0 rfl) ?_
      refine mm_get hx hb hts hown hR 20 0 22 vl_20 (v := .ref (ra G 23 0)) rfl rfl iX7 (by decide) lk_161 rfl dX7_saidOf_14 ?_
      refine lv_bipush (v := 15) hx hb dX7_saidOf_17 (by decide) ?_
      refine lv_iload hx hb dX7_saidOf_19 (lv_at hl 4 rfl) ?_
      refine lv_imul hx hb dX7_saidOf_21 ?_
      refine lv_iconst (v := 2) hx hb dX7_saidOf_22 (by decide) ?_
      refine lv_iadd hx hb dX7_saidOf_23 ?_
      obtain ⟨z3, h⟩ := mm_if h
      refine mm_ild hx hb hR 23 0 vl_23 (L := 150) rfl (okI_in z3) dX7_saidOf_24 ?_
      refine lv_iload_n hx hb dX7_saidOf_25 rfl (lv_at hl 3 rfl) ?_
      refine lv_icmp_ne (tgt := 53) hx hb dX7_saidOf_26 (by decide) (fun c4 => ?_) (fun c4 => ?_)
      · rw [if_neg c4] at h
        exact L_X7_saidOf_53 C0 (fun _ _ _ _ _ h9 H9 locs9 ls9 hR9 hl9 => ih h9 _ _ _ hR9 hl9) h _ _ _ hR (lv_sub hl [0, 1, 2, 3, 4] rfl)
      · rw [if_pos c4] at h
        refine lv_aload_n hx hb dX7_saidOf_29 rfl (lv_at hl 0 rfl) ?_
        refine lv_iload hx hb dX7_saidOf_30 (lv_at hl 4 rfl) ?_
        refine lv_iload_n hx hb dX7_saidOf_32 rfl (lv_at hl 1 rfl) ?_
        refine lv_iload_n hx hb dX7_saidOf_33 rfl (lv_at hl 2 rfl) ?_
        obtain ⟨r6, f5, ef5, h⟩ := mm_b2e h
        refine mm_callV (v := some (.int r6)) (f1 := f5) (d0 := 2) (rest := []) [.int x4, .int x1, .int x2] C0 rfl hR 20 0 (T_X7_holds G ef5) ws_X7_holds lk_164 hd_X7_holds ⟨by decide, by decide⟩ vl_20 rfl rfl rfl hl.1 rfl (Nat.le_of_ble_eq_true rfl) dX7_saidOf_34 (fun H locs hR => ?_)
        refine W.eq (g2 := F0 m 37 ls (.int r6 :: [])) rfl ?_
        refine lv_if_eq (tgt := 53) hx hb dX7_saidOf_37 (by decide) (fun c7 => ?_) (fun c7 => ?_)
        · rw [if_pos c7] at h
          exact L_X7_saidOf_53 C0 (fun _ _ _ _ _ h9 H9 locs9 ls9 hR9 hl9 => ih h9 _ _ _ hR9 hl9) h _ _ _ hR (lv_sub hl [0, 1, 2, 3, 4] rfl)
        · rw [if_neg c7] at h
          refine lv_aload_n hx hb dX7_saidOf_40 rfl (lv_at hl 0 rfl) ?_
          refine mm_get hx hb hts hown hR 20 0 22 vl_20 (v := .ref (ra G 23 0)) rfl rfl iX7 (by decide) lk_161 rfl dX7_saidOf_41 ?_
          refine lv_bipush (v := 15) hx hb dX7_saidOf_44 (by decide) ?_
          refine lv_iload hx hb dX7_saidOf_46 (lv_at hl 4 rfl) ?_
          refine lv_imul hx hb dX7_saidOf_48 ?_
          refine lv_iconst (v := 3) hx hb dX7_saidOf_49 (by decide) ?_
          refine lv_iadd hx hb dX7_saidOf_50 ?_
          obtain ⟨z8, h⟩ := mm_if h
          refine mm_ild hx hb hR 23 0 vl_23 (L := 150) rfl (okI_in z8) dX7_saidOf_51 ?_
          obtain ⟨rfl, rfl⟩ := mm_pr h
          exact mm_iret C0 hR dX7_saidOf_52
def S_X7_saidOf (f : F3) (x1 : Int32) (x2 : Int32) (x3 : Int32) : Option (Int32 × F3) := S_X7_saidOf_8 FU f x1 x2 x3 ((f 20 0 21) - 1)
set_option maxHeartbeats 4000000 in
set_option maxRecDepth 100000 in
theorem T_X7_saidOf (G : mmG) {f f' : F3} {rv : Int32} {x1 : Int32} {x2 : Int32} {x3 : Int32} (h : S_X7_saidOf f x1 x2 x3 = some (rv, f')) : mmM G yX7_saidOf cX7_saidOf 5 (some .int) 3 [.ref (ra G 20 0), .int x1, .int x2, .int x3] f (some (.int rv)) f' := by
  refine mm_start (by decide +kernel) (Nat.le_of_ble_eq_true rfl) ?_
  intro p e s m args below meth c ls C0 hR hl
  obtain ⟨hx, hb, hml, hr, hown, hts, hlocks⟩ := id C0
  have hl : lv_has ls 5 [(0, .ref (ra G 20 0)), (1, .int x1), (2, .int x2), (3, .int x3)] := hl
  rw [S_X7_saidOf] at h
  refine lv_aload_n hx hb dX7_saidOf_0 rfl (lv_at hl 0 rfl) ?_
  refine mm_get hx hb hts hown hR 20 0 21 vl_20 (v := .int (f 20 0 21)) rfl rfl iX7 (by decide) lk_163 rfl dX7_saidOf_1 ?_
  refine lv_iconst (v := 1) hx hb dX7_saidOf_4 (by decide) ?_
  refine lv_isub hx hb dX7_saidOf_5 ?_
  refine lv_istore (lv' := [(4, .int ((f 20 0 21) - 1)), (0, .ref (ra G 20 0)), (1, .int x1), (2, .int x2), (3, .int x3)]) hx hb dX7_saidOf_6 hl (by decide) rfl (fun ls hl => ?_)
  exact L_X7_saidOf_8 C0 _ h _ _ _ hR (lv_sub hl [1, 2, 3, 4, 0] rfl)
def S_X7_nearest_29 (f : F3) (x3 : Int32) : Option (Int32 × F3) := mm_b2 (S_X7_isCell f x3) fun r7 f6 => if r7 = 0 then (some ((-1), f6)) else (some (x3, f6))
set_option maxHeartbeats 4000000 in
set_option maxRecDepth 100000 in
theorem L_X7_nearest_29 {G : mmG} {p : Program} {e : Env} {s : State} {m : MethodId} {args : Array Value} {below : List Frame} {meth : Method} {c : Code} {f' : F3} {rv : Int32} (C0 : mmC yX7_nearest cX7_nearest 4 (some .int) p s m args meth c) {f : F3} {x3 : Int32} (h : S_X7_nearest_29 f x3 = some (rv, f')) (H : Heap) (locs : List Loc) (ls : Array Slot) (hR : mm_R G mm_NT f (GG f) s H locs) (hl : lv_has ls 4 [(0, .ref (ra G 20 0)), (3, .int x3)]) : W p G.1 e (mm_rm 2) s m args below meth c H locs 0 0 (MQ below (mm_Q G mm_NT (some (.int rv)) f' (GG f')) args s 0 0 (mm_A G)) (F0 m 29 ls []) := by
  obtain ⟨hx, hb, hml, hr, hown, hts, hlocks⟩ := id C0
  rw [S_X7_nearest_29] at h
  refine lv_aload_n hx hb dX7_nearest_29 rfl (lv_at hl 0 rfl) ?_
  refine lv_iload_n hx hb dX7_nearest_30 rfl (lv_at hl 1 rfl) ?_
  obtain ⟨r7, f6, ef6, h⟩ := mm_b2e h
  refine mm_callV (v := some (.int r7)) (f1 := f6) (d0 := 1) (rest := []) [.int x3] C0 rfl hR 20 0 (T_X7_isCell G ef6) ws_X7_isCell lk_146 hd_X7_isCell ⟨by decide, by decide⟩ vl_20 rfl rfl rfl hl.1 rfl (Nat.le_of_ble_eq_true rfl) dX7_nearest_31 (fun H locs hR => ?_)
  refine W.eq (g2 := F0 m 34 ls (.int r7 :: [])) rfl ?_
  refine lv_if_eq (tgt := 41) hx hb dX7_nearest_34 (by decide) (fun c8 => ?_) (fun c8 => ?_)
  · rw [if_pos c8] at h
    refine lv_iconst (v := (-1)) hx hb dX7_nearest_41 (by decide) ?_
    obtain ⟨rfl, rfl⟩ := mm_pr h
    exact mm_iret C0 hR dX7_nearest_42
  · rw [if_neg c8] at h
    refine lv_iload_n hx hb dX7_nearest_37 rfl (lv_at hl 1 rfl) ?_
    refine lv_goto (tgt := 42) hx hb dX7_nearest_38 (by decide) ?_
    obtain ⟨rfl, rfl⟩ := mm_pr h
    exact mm_iret C0 hR dX7_nearest_42
def S_X7_nearest_4 : Nat → F3 → Int32 → Int32 → Option (Int32 × F3)
  | 0, _, _, _ => none
  | n + 1, f, x2, x3 => mm_b2 (S_X7_isCell f x3) fun r2 f1 => if r2 = 0 then (S_X7_nearest_29 f1 x3) else (if okI x3 10 then (if (f1 37 0 x3.toNatClampNeg) = (-1) then (S_X7_nearest_4 n f1 x2 (x3 + x2)) else (S_X7_nearest_29 f1 x3)) else none)
set_option maxHeartbeats 4000000 in
set_option maxRecDepth 100000 in
theorem L_X7_nearest_4 {G : mmG} {p : Program} {e : Env} {s : State} {m : MethodId} {args : Array Value} {below : List Frame} {meth : Method} {c : Code} {f' : F3} {rv : Int32} (C0 : mmC yX7_nearest cX7_nearest 4 (some .int) p s m args meth c) : ∀ (n : Nat) {f : F3} {x2 : Int32} {x3 : Int32} , S_X7_nearest_4 n f x2 x3 = some (rv, f') → ∀ (H : Heap) (locs : List Loc) (ls : Array Slot), mm_R G mm_NT f (GG f) s H locs → lv_has ls 4 [(0, .ref (ra G 20 0)), (2, .int x2), (3, .int x3)] → W p G.1 e (mm_rm 2) s m args below meth c H locs 0 0 (MQ below (mm_Q G mm_NT (some (.int rv)) f' (GG f')) args s 0 0 (mm_A G)) (F0 m 4 ls []) := by
  obtain ⟨hx, hb, hml, hr, hown, hts, hlocks⟩ := id C0
  intro n
  induction n with
  | zero =>
    intro f x2 x3  h H locs ls hR hl
    cases h
  | succ n ih =>
    intro f x2 x3  h H locs ls hR hl
    rw [S_X7_nearest_4] at h
    refine lv_aload_n hx hb dX7_nearest_4 rfl (lv_at hl 0 rfl) ?_
    refine lv_iload_n hx hb dX7_nearest_5 rfl (lv_at hl 2 rfl) ?_
    obtain ⟨r2, f1, ef1, h⟩ := mm_b2e h
    refine mm_callV (v := some (.int r2)) (f1 := f1) (d0 := 1) (rest := []) [.int x3] C0 rfl hR 20 0 (T_X7_isCell G ef1) ws_X7_isCell lk_146 hd_X7_isCell ⟨by decide, by decide⟩ vl_20 rfl rfl rfl hl.1 rfl (Nat.le_of_ble_eq_true rfl) dX7_nearest_6 (fun H locs hR => ?_)
    refine W.eq (g2 := F0 m 9 ls (.int r2 :: [])) rfl ?_
    refine lv_if_eq (tgt := 29) hx hb dX7_nearest_9 (by decide) (fun c3 => ?_) (fun c3 => ?_)
    · rw [if_pos c3] at h
      exact L_X7_nearest_29 C0 h _ _ _ hR (lv_sub hl [0, 2] rfl)
    · rw [if_neg c3] at h
      refine lv_aload_n hx hb dX7_nearest_12 rfl (lv_at hl 0 rfl) ?_
      refine mm_get hx hb hts hown hR 20 0 10 vl_20 (v := .ref (ra G 37 0)) rfl rfl iX7 (by decide) lk_148 rfl dX7_nearest_13 ?_
      refine lv_iload_n hx hb dX7_nearest_16 rfl (lv_at hl 2 rfl) ?_
      obtain ⟨z4, h⟩ := mm_if h
      refine mm_ild hx hb hR 37 0 vl_37 (L := 10) rfl (okI_in z4) dX7_nearest_17 ?_
      refine lv_iconst (v := (-1)) hx hb dX7_nearest_18 (by decide) ?_
      refine lv_icmp_ne (tgt := 29) hx hb dX7_nearest_19 (by decide) (fun c5 => ?_) (fun c5 => ?_)
      · rw [if_neg c5] at h
        exact L_X7_nearest_29 C0 h _ _ _ hR (lv_sub hl [0, 2] rfl)
      · rw [if_pos c5] at h
        refine lv_iload_n hx hb dX7_nearest_22 rfl (lv_at hl 2 rfl) ?_
        refine lv_iload_n hx hb dX7_nearest_23 rfl (lv_at hl 1 rfl) ?_
        refine lv_iadd hx hb dX7_nearest_24 ?_
        refine lv_istore_n (lv' := [(3, .int (x3 + x2)), (0, .ref (ra G 20 0)), (2, .int x2)]) hx hb dX7_nearest_25 rfl hl (by decide) rfl (fun ls hl => ?_)
        refine lv_goto (tgt := 4) hx hb dX7_nearest_26 (by decide) ?_
        exact ih  h _ _ _ hR (lv_sub hl [1, 2, 0] rfl)
def S_X7_nearest (f : F3) (x1 : Int32) (x2 : Int32) : Option (Int32 × F3) := S_X7_nearest_4 FU f x2 (x1 + x2)
set_option maxHeartbeats 4000000 in
set_option maxRecDepth 100000 in
theorem T_X7_nearest (G : mmG) {f f' : F3} {rv : Int32} {x1 : Int32} {x2 : Int32} (h : S_X7_nearest f x1 x2 = some (rv, f')) : mmM G yX7_nearest cX7_nearest 4 (some .int) 2 [.ref (ra G 20 0), .int x1, .int x2] f (some (.int rv)) f' := by
  refine mm_start (by decide +kernel) (Nat.le_of_ble_eq_true rfl) ?_
  intro p e s m args below meth c ls C0 hR hl
  obtain ⟨hx, hb, hml, hr, hown, hts, hlocks⟩ := id C0
  have hl : lv_has ls 4 [(0, .ref (ra G 20 0)), (1, .int x1), (2, .int x2)] := hl
  rw [S_X7_nearest] at h
  refine lv_iload_n hx hb dX7_nearest_0 rfl (lv_at hl 1 rfl) ?_
  refine lv_iload_n hx hb dX7_nearest_1 rfl (lv_at hl 2 rfl) ?_
  refine lv_iadd hx hb dX7_nearest_2 ?_
  refine lv_istore_n (lv' := [(3, .int (x1 + x2)), (0, .ref (ra G 20 0)), (1, .int x1), (2, .int x2)]) hx hb dX7_nearest_3 rfl hl (by decide) rfl (fun ls hl => ?_)
  exact L_X7_nearest_4 C0 _ h _ _ _ hR (lv_sub hl [1, 3, 0] rfl)
def S_X7_least_86 (f : F3) (x2 : Int32) (x3 : Int32) : Option (Int32 × F3) := if x2 = (-1) then (if x3 = (-1) then (some (0, f)) else (if okI x3 10 then (some ((f 37 0 x3.toNatClampNeg) / 2, f)) else none)) else (if okI x2 10 then (some ((f 37 0 x2.toNatClampNeg) / 2, f)) else none)
set_option maxHeartbeats 4000000 in
set_option maxRecDepth 100000 in
theorem L_X7_least_86 {G : mmG} {p : Program} {e : Env} {s : State} {m : MethodId} {args : Array Value} {below : List Frame} {meth : Method} {c : Code} {f' : F3} {rv : Int32} (C0 : mmC yX7_least cX7_least 4 (some .int) p s m args meth c) {f : F3} {x2 : Int32} {x3 : Int32} (h : S_X7_least_86 f x2 x3 = some (rv, f')) (H : Heap) (locs : List Loc) (ls : Array Slot) (hR : mm_R G mm_NT f (GG f) s H locs) (hl : lv_has ls 4 [(0, .ref (ra G 20 0)), (2, .int x2), (3, .int x3)]) : W p G.1 e (mm_rm 3) s m args below meth c H locs 0 0 (MQ below (mm_Q G mm_NT (some (.int rv)) f' (GG f')) args s 0 0 (mm_A G)) (F0 m 86 ls []) := by
  obtain ⟨hx, hb, hml, hr, hown, hts, hlocks⟩ := id C0
  rw [S_X7_least_86] at h
  refine lv_iload_n hx hb dX7_least_86 rfl (lv_at hl 1 rfl) ?_
  refine lv_iconst (v := (-1)) hx hb dX7_least_87 (by decide) ?_
  refine lv_icmp_eq (tgt := 102) hx hb dX7_least_88 (by decide) (fun c13 => ?_) (fun c13 => ?_)
  · rw [if_pos c13] at h
    refine lv_iload_n hx hb dX7_least_102 rfl (lv_at hl 2 rfl) ?_
    refine lv_iconst (v := (-1)) hx hb dX7_least_103 (by decide) ?_
    refine lv_icmp_eq (tgt := 118) hx hb dX7_least_104 (by decide) (fun c14 => ?_) (fun c14 => ?_)
    · rw [if_pos c14] at h
      refine lv_iconst (v := 0) hx hb dX7_least_118 (by decide) ?_
      obtain ⟨rfl, rfl⟩ := mm_pr h
      exact mm_iret C0 hR dX7_least_119
    · rw [if_neg c14] at h
      refine lv_aload_n hx hb dX7_least_107 rfl (lv_at hl 0 rfl) ?_
      refine mm_get hx hb hts hown hR 20 0 10 vl_20 (v := .ref (ra G 37 0)) rfl rfl iX7 (by decide) lk_148 rfl dX7_least_108 ?_
      refine lv_iload_n hx hb dX7_least_111 rfl (lv_at hl 2 rfl) ?_
      obtain ⟨z15, h⟩ := mm_if h
      refine mm_ild hx hb hR 37 0 vl_37 (L := 10) rfl (okI_in z15) dX7_least_112 ?_
      refine lv_iconst (v := 2) hx hb dX7_least_113 (by decide) ?_
      refine lv_idiv hx hb dX7_least_114 (by decide) ?_
      refine lv_goto (tgt := 119) hx hb dX7_least_115 (by decide) ?_
      obtain ⟨rfl, rfl⟩ := mm_pr h
      exact mm_iret C0 hR dX7_least_119
  · rw [if_neg c13] at h
    refine lv_aload_n hx hb dX7_least_91 rfl (lv_at hl 0 rfl) ?_
    refine mm_get hx hb hts hown hR 20 0 10 vl_20 (v := .ref (ra G 37 0)) rfl rfl iX7 (by decide) lk_148 rfl dX7_least_92 ?_
    refine lv_iload_n hx hb dX7_least_95 rfl (lv_at hl 1 rfl) ?_
    obtain ⟨z16, h⟩ := mm_if h
    refine mm_ild hx hb hR 37 0 vl_37 (L := 10) rfl (okI_in z16) dX7_least_96 ?_
    refine lv_iconst (v := 2) hx hb dX7_least_97 (by decide) ?_
    refine lv_idiv hx hb dX7_least_98 (by decide) ?_
    refine lv_goto (tgt := 119) hx hb dX7_least_99 (by decide) ?_
    obtain ⟨rfl, rfl⟩ := mm_pr h
    exact mm_iret C0 hR dX7_least_119
def S_X7_least (f : F3) (x1 : Int32) : Option (Int32 × F3) := if okI x1 10 then (if (f 30 0 x1.toNatClampNeg) = 4 then (some (3000, f)) else (if (f 37 0 x1.toNatClampNeg) = (-1) then (mm_b2 (S_X7_nearest f x1 (-1)) fun r5 f4 => mm_b2 (S_X7_nearest f4 x1 1) fun r7 f6 => if r5 = (-1) then (S_X7_least_86 f6 r5 r7) else (if r7 = (-1) then (S_X7_least_86 f6 r5 r7) else (if okI r5 10 then (if okI r7 10 then (if (f6 37 0 r7.toNatClampNeg) ≤ (f6 37 0 r5.toNatClampNeg) then (some (f6 37 0 r7.toNatClampNeg, f6)) else (some (f6 37 0 r5.toNatClampNeg, f6))) else none) else none))) else (some (f 37 0 x1.toNatClampNeg, f)))) else none
set_option maxHeartbeats 4000000 in
set_option maxRecDepth 100000 in
theorem T_X7_least (G : mmG) {f f' : F3} {rv : Int32} {x1 : Int32} (h : S_X7_least f x1 = some (rv, f')) : mmM G yX7_least cX7_least 4 (some .int) 3 [.ref (ra G 20 0), .int x1] f (some (.int rv)) f' := by
  refine mm_start (by decide +kernel) (Nat.le_of_ble_eq_true rfl) ?_
  intro p e s m args below meth c ls C0 hR hl
  obtain ⟨hx, hb, hml, hr, hown, hts, hlocks⟩ := id C0
  have hl : lv_has ls 4 [(0, .ref (ra G 20 0)), (1, .int x1)] := hl
  rw [S_X7_least] at h
  refine lv_aload_n hx hb dX7_least_0 rfl (lv_at hl 0 rfl) ?_
  refine mm_get hx hb hts hown hR 20 0 3 vl_20 (v := .ref (ra G 30 0)) rfl rfl iX7 (by decide) lk_140 rfl dX7_least_1 ?_
  refine lv_iload_n hx hb dX7_least_4 rfl (lv_at hl 1 rfl) ?_
  obtain ⟨z1, h⟩ := mm_if h
  refine mm_ild hx hb hR 30 0 vl_30 (L := 10) rfl (okI_in z1) dX7_least_5 ?_
  refine lv_iconst (v := 4) hx hb dX7_least_6 (by decide) ?_
  refine lv_icmp_ne (tgt := 14) hx hb dX7_least_7 (by decide) (fun c2 => ?_) (fun c2 => ?_)
  · rw [if_neg c2] at h
    refine lv_aload_n hx hb dX7_least_14 rfl (lv_at hl 0 rfl) ?_
    refine mm_get hx hb hts hown hR 20 0 10 vl_20 (v := .ref (ra G 37 0)) rfl rfl iX7 (by decide) lk_148 rfl dX7_least_15 ?_
    refine lv_iload_n hx hb dX7_least_18 rfl (lv_at hl 1 rfl) ?_
    refine mm_ild hx hb hR 37 0 vl_37 (L := 10) rfl (okI_in z1) dX7_least_19 ?_
    refine lv_iconst (v := (-1)) hx hb dX7_least_20 (by decide) ?_
    refine lv_icmp_eq (tgt := 31) hx hb dX7_least_21 (by decide) (fun c3 => ?_) (fun c3 => ?_)
    · rw [if_pos c3] at h
      refine lv_aload_n hx hb dX7_least_31 rfl (lv_at hl 0 rfl) ?_
      refine lv_iload_n hx hb dX7_least_32 rfl (lv_at hl 1 rfl) ?_
      refine lv_iconst (v := (-1)) hx hb dX7_least_33 (by decide) ?_
      obtain ⟨r5, f4, ef4, h⟩ := mm_b2e h
      refine mm_callV (v := some (.int r5)) (f1 := f4) (d0 := 2) (rest := []) [.int x1, .int (-1)] C0 rfl hR 20 0 (T_X7_nearest G ef4) ws_X7_nearest lk_165 hd_X7_nearest ⟨by decide, by decide⟩ vl_20 rfl rfl rfl hl.1 rfl (Nat.le_of_ble_eq_true rfl) dX7_least_34 (fun H locs hR => ?_)
      refine W.eq (g2 := F0 m 37 ls (.int r5 :: [])) rfl ?_
      refine lv_istore_n (lv' := [(2, .int r5), (0, .ref (ra G 20 0)), (1, .int x1)]) hx hb dX7_least_37 rfl hl (by decide) rfl (fun ls hl => ?_)
      refine lv_aload_n hx hb dX7_least_38 rfl (lv_at hl 1 rfl) ?_
      refine lv_iload_n hx hb dX7_least_39 rfl (lv_at hl 2 rfl) ?_
      refine lv_iconst (v := 1) hx hb dX7_least_40 (by decide) ?_
      obtain ⟨r7, f6, ef6, h⟩ := mm_b2e h
      refine mm_callV (v := some (.int r7)) (f1 := f6) (d0 := 2) (rest := []) [.int x1, .int 1] C0 rfl hR 20 0 (T_X7_nearest G ef6) ws_X7_nearest lk_165 hd_X7_nearest ⟨by decide, by decide⟩ vl_20 rfl rfl rfl hl.1 rfl (Nat.le_of_ble_eq_true rfl) dX7_least_41 (fun H locs hR => ?_)
      refine W.eq (g2 := F0 m 44 ls (.int r7 :: [])) rfl ?_
      refine lv_istore_n (lv' := [(3, .int r7), (2, .int r5), (0, .ref (ra G 20 0)), (1, .int x1)]) hx hb dX7_least_44 rfl hl (by decide) rfl (fun ls hl => ?_)
      refine lv_iload_n hx hb dX7_least_45 rfl (lv_at hl 1 rfl) ?_
      refine lv_iconst (v := (-1)) hx hb dX7_least_46 (by decide) ?_
      refine lv_icmp_eq (tgt := 86) hx hb dX7_least_47 (by decide) (fun c8 => ?_) (fun c8 => ?_)
      · rw [if_pos c8] at h
        exact L_X7_least_86 C0 h _ _ _ hR (lv_sub hl [2, 1, 0] rfl)
      · rw [if_neg c8] at h
        refine lv_iload_n hx hb dX7_least_50 rfl (lv_at hl 0 rfl) ?_
        refine lv_iconst (v := (-1)) hx hb dX7_least_51 (by decide) ?_
        refine lv_icmp_eq (tgt := 86) hx hb dX7_least_52 (by decide) (fun c9 => ?_) (fun c9 => ?_)
        · rw [if_pos c9] at h
          exact L_X7_least_86 C0 h _ _ _ hR (lv_sub hl [2, 1, 0] rfl)
        · rw [if_neg c9] at h
          refine lv_aload_n hx hb dX7_least_55 rfl (lv_at hl 2 rfl) ?_
          refine mm_get hx hb hts hown hR 20 0 10 vl_20 (v := .ref (ra G 37 0)) rfl rfl iX7 (by decide) lk_148 rfl dX7_least_56 ?_
          refine lv_iload_n hx hb dX7_least_59 rfl (lv_at hl 1 rfl) ?_
          obtain ⟨z10, h⟩ := mm_if h
          refine mm_ild hx hb hR 37 0 vl_37 (L := 10) rfl (okI_in z10) dX7_least_60 ?_
          refine lv_aload_n hx hb dX7_least_61 rfl (lv_at hl 2 rfl) ?_
          refine mm_get hx hb hts hown hR 20 0 10 vl_20 (v := .ref (ra G 37 0)) rfl rfl iX7 (by decide) lk_148 rfl dX7_least_62 ?_
          refine lv_iload_n hx hb dX7_least_65 rfl (lv_at hl 0 rfl) ?_
          obtain ⟨z11, h⟩ := mm_if h
          refine mm_ild hx hb hR 37 0 vl_37 (L := 10) rfl (okI_in z11) dX7_least_66 ?_
          refine lv_icmp_ge (tgt := 79) hx hb dX7_least_67 (by decide) (fun c12 => ?_) (fun c12 => ?_)
          · rw [if_pos c12] at h
            refine lv_aload_n hx hb dX7_least_79 rfl (lv_at hl 2 rfl) ?_
            refine mm_get hx hb hts hown hR 20 0 10 vl_20 (v := .ref (ra G 37 0)) rfl rfl iX7 (by decide) lk_148 rfl dX7_least_80 ?_
            refine lv_iload_n hx hb dX7_least_83 rfl (lv_at hl 0 rfl) ?_
            refine mm_ild hx hb hR 37 0 vl_37 (L := 10) rfl (okI_in z11) dX7_least_84 ?_
            obtain ⟨rfl, rfl⟩ := mm_pr h
            exact mm_iret C0 hR dX7_least_85
          · rw [if_neg c12] at h
            refine lv_aload_n hx hb dX7_least_70 rfl (lv_at hl 2 rfl) ?_
            refine mm_get hx hb hts hown hR 20 0 10 vl_20 (v := .ref (ra G 37 0)) rfl rfl iX7 (by decide) lk_148 rfl dX7_least_71 ?_
            refine lv_iload_n hx hb dX7_least_74 rfl (lv_at hl 1 rfl) ?_
            refine mm_ild hx hb hR 37 0 vl_37 (L := 10) rfl (okI_in z10) dX7_least_75 ?_
            refine lv_goto (tgt := 85) hx hb dX7_least_76 (by decide) ?_
            obtain ⟨rfl, rfl⟩ := mm_pr h
            exact mm_iret C0 hR dX7_least_85
    · rw [if_neg c3] at h
      refine lv_aload_n hx hb dX7_least_24 rfl (lv_at hl 0 rfl) ?_
      refine mm_get hx hb hts hown hR 20 0 10 vl_20 (v := .ref (ra G 37 0)) rfl rfl iX7 (by decide) lk_148 rfl dX7_least_25 ?_
      refine lv_iload_n hx hb dX7_least_28 rfl (lv_at hl 1 rfl) ?_
      refine mm_ild hx hb hR 37 0 vl_37 (L := 10) rfl (okI_in z1) dX7_least_29 ?_
      obtain ⟨rfl, rfl⟩ := mm_pr h
      exact mm_iret C0 hR dX7_least_30
  · rw [if_pos c2] at h
    refine lv_sipush (v := 3000) hx hb dX7_least_10 (by decide) ?_
    obtain ⟨rfl, rfl⟩ := mm_pr h
    exact mm_iret C0 hR dX7_least_13
def S_X7_whyNot (f : F3) (x1 : Int32) (x2 : Int32) : Option (Int32 × F3) := mm_b2 (S_X7_saidOf f x1 x2 2) fun r2 f1 => if r2 = 0 then (mm_b2 (S_X7_least f1 x2) fun r5 f4 => mm_b2 (S_X7_saidOf f4 x1 x2 0) fun r7 f6 => if r7 ≤ r5 then (if okI x1 24 then (if okI ((2 * x2) + (f6 42 0 x1.toNatClampNeg)) 20 then (if (f6 38 0 ((2 * x2) + (f6 42 0 x1.toNatClampNeg)).toNatClampNeg) = (-1) then (some (0, f6)) else (mm_b2 (S_X7_saidOf f6 x1 x2 1) fun r13 f12 => if r13 ≤ ((f6 20 0 1) - (f6 38 0 ((2 * x2) + (f6 42 0 x1.toNatClampNeg)).toNatClampNeg)) then (some (0, f12)) else (some (3, f12)))) else none) else none) else (some (2, f6))) else (some (1, f1))
set_option maxHeartbeats 4000000 in
set_option maxRecDepth 100000 in
theorem T_X7_whyNot (G : mmG) {f f' : F3} {rv : Int32} {x1 : Int32} {x2 : Int32} (h : S_X7_whyNot f x1 x2 = some (rv, f')) : mmM G yX7_whyNot cX7_whyNot 4 (some .int) 4 [.ref (ra G 20 0), .int x1, .int x2] f (some (.int rv)) f' := by
  refine mm_start (by decide +kernel) (Nat.le_of_ble_eq_true rfl) ?_
  intro p e s m args below meth c ls C0 hR hl
  obtain ⟨hx, hb, hml, hr, hown, hts, hlocks⟩ := id C0
  have hl : lv_has ls 4 [(0, .ref (ra G 20 0)), (1, .int x1), (2, .int x2)] := hl
  rw [S_X7_whyNot] at h
  refine lv_aload_n hx hb dX7_whyNot_0 rfl (lv_at hl 0 rfl) ?_
  refine lv_iload_n hx hb dX7_whyNot_1 rfl (lv_at hl 1 rfl) ?_
  refine lv_iload_n hx hb dX7_whyNot_2 rfl (lv_at hl 2 rfl) ?_
  refine lv_iconst (v := 2) hx hb dX7_whyNot_3 (by decide) ?_
  obtain ⟨r2, f1, ef1, h⟩ := mm_b2e h
  refine mm_callV (v := some (.int r2)) (f1 := f1) (d0 := 3) (rest := []) [.int x1, .int x2, .int 2] C0 rfl hR 20 0 (T_X7_saidOf G ef1) ws_X7_saidOf lk_166 hd_X7_saidOf ⟨by decide, by decide⟩ vl_20 rfl rfl rfl hl.1 rfl (Nat.le_of_ble_eq_true rfl) dX7_whyNot_4 (fun H locs hR => ?_)
  refine W.eq (g2 := F0 m 7 ls (.int r2 :: [])) rfl ?_
  refine lv_if_eq (tgt := 12) hx hb dX7_whyNot_7 (by decide) (fun c3 => ?_) (fun c3 => ?_)
  · rw [if_pos c3] at h
    refine lv_aload_n hx hb dX7_whyNot_12 rfl (lv_at hl 0 rfl) ?_
    refine lv_iload_n hx hb dX7_whyNot_13 rfl (lv_at hl 2 rfl) ?_
    obtain ⟨r5, f4, ef4, h⟩ := mm_b2e h
    refine mm_callV (v := some (.int r5)) (f1 := f4) (d0 := 3) (rest := []) [.int x2] C0 rfl hR 20 0 (T_X7_least G ef4) ws_X7_least lk_167 hd_X7_least ⟨by decide, by decide⟩ vl_20 rfl rfl rfl hl.1 rfl (Nat.le_of_ble_eq_true rfl) dX7_whyNot_14 (fun H locs hR => ?_)
    refine W.eq (g2 := F0 m 17 ls (.int r5 :: [])) rfl ?_
    refine lv_aload_n hx hb dX7_whyNot_17 rfl (lv_at hl 0 rfl) ?_
    refine lv_iload_n hx hb dX7_whyNot_18 rfl (lv_at hl 1 rfl) ?_
    refine lv_iload_n hx hb dX7_whyNot_19 rfl (lv_at hl 2 rfl) ?_
    refine lv_iconst (v := 0) hx hb dX7_whyNot_20 (by decide) ?_
    obtain ⟨r7, f6, ef6, h⟩ := mm_b2e h
    refine mm_callV (v := some (.int r7)) (f1 := f6) (d0 := 3) (rest := [.int r5]) [.int x1, .int x2, .int 0] C0 rfl hR 20 0 (T_X7_saidOf G ef6) ws_X7_saidOf lk_166 hd_X7_saidOf ⟨by decide, by decide⟩ vl_20 rfl rfl rfl hl.1 rfl (Nat.le_of_ble_eq_true rfl) dX7_whyNot_21 (fun H locs hR => ?_)
    refine W.eq (g2 := F0 m 24 ls (.int r7 :: .int r5 :: [])) rfl ?_
    refine lv_icmp_ge (tgt := 29) hx hb dX7_whyNot_24 (by decide) (fun c8 => ?_) (fun c8 => ?_)
    · rw [if_pos c8] at h
      refine lv_aload_n hx hb dX7_whyNot_29 rfl (lv_at hl 0 rfl) ?_
      refine mm_get hx hb hts hown hR 20 0 11 vl_20 (v := .ref (ra G 38 0)) rfl rfl iX7 (by decide) lk_168 rfl dX7_whyNot_30 ?_
      refine lv_iconst (v := 2) hx hb dX7_whyNot_33 (by decide) ?_
      refine lv_iload_n hx hb dX7_whyNot_34 rfl (lv_at hl 2 rfl) ?_
      refine lv_imul hx hb dX7_whyNot_35 ?_
      refine lv_aload_n hx hb dX7_whyNot_36 rfl (lv_at hl 0 rfl) ?_
      refine mm_get hx hb hts hown hR 20 0 16 vl_20 (v := .ref (ra G 42 0)) rfl rfl iX7 (by decide) lk_169 rfl dX7_whyNot_37 ?_
      refine lv_iload_n hx hb dX7_whyNot_40 rfl (lv_at hl 1 rfl) ?_
      obtain ⟨z9, h⟩ := mm_if h
      refine mm_ild hx hb hR 42 0 vl_42 (L := 24) rfl (okI_in z9) dX7_whyNot_41 ?_
      refine lv_iadd hx hb dX7_whyNot_42 ?_
      obtain ⟨z10, h⟩ := mm_if h
      refine mm_ild hx hb hR 38 0 vl_38 (L := 20) rfl (okI_in z10) dX7_whyNot_43 ?_
      refine lv_istore_n (lv' := [(3, .int (f6 38 0 ((2 * x2) + (f6 42 0 x1.toNatClampNeg)).toNatClampNeg)), (0, .ref (ra G 20 0)), (1, .int x1), (2, .int x2)]) hx hb dX7_whyNot_44 rfl hl (by decide) rfl (fun ls hl => ?_)
      refine lv_iload_n hx hb dX7_whyNot_45 rfl (lv_at hl 0 rfl) ?_
      refine lv_iconst (v := (-1)) hx hb dX7_whyNot_46 (by decide) ?_
      refine lv_icmp_eq (tgt := 70) hx hb dX7_whyNot_47 (by decide) (fun c11 => ?_) (fun c11 => ?_)
      · rw [if_pos c11] at h
        refine lv_iconst (v := 0) hx hb dX7_whyNot_70 (by decide) ?_
        obtain ⟨rfl, rfl⟩ := mm_pr h
        exact mm_iret C0 hR dX7_whyNot_71
      · rw [if_neg c11] at h
        refine lv_aload_n hx hb dX7_whyNot_50 rfl (lv_at hl 1 rfl) ?_
        refine mm_get hx hb hts hown hR 20 0 1 vl_20 (v := .int (f6 20 0 1)) rfl rfl iX7 (by decide) lk_157 rfl dX7_whyNot_51 ?_
        refine lv_iload_n hx hb dX7_whyNot_54 rfl (lv_at hl 0 rfl) ?_
        refine lv_isub hx hb dX7_whyNot_55 ?_
        refine lv_aload_n hx hb dX7_whyNot_56 rfl (lv_at hl 1 rfl) ?_
        refine lv_iload_n hx hb dX7_whyNot_57 rfl (lv_at hl 2 rfl) ?_
        refine lv_iload_n hx hb dX7_whyNot_58 rfl (lv_at hl 3 rfl) ?_
        refine lv_iconst (v := 1) hx hb dX7_whyNot_59 (by decide) ?_
        obtain ⟨r13, f12, ef12, h⟩ := mm_b2e h
        refine mm_callV (v := some (.int r13)) (f1 := f12) (d0 := 3) (rest := [.int ((f6 20 0 1) - (f6 38 0 ((2 * x2) + (f6 42 0 x1.toNatClampNeg)).toNatClampNeg))]) [.int x1, .int x2, .int 1] C0 rfl hR 20 0 (T_X7_saidOf G ef12) ws_X7_saidOf lk_166 hd_X7_saidOf ⟨by decide, by decide⟩ vl_20 rfl rfl rfl hl.1 rfl (Nat.le_of_ble_eq_true rfl) dX7_whyNot_60 (fun H locs hR => ?_)
        refine W.eq (g2 := F0 m 63 ls (.int r13 :: .int ((f6 20 0 1) - (f6 38 0 ((2 * x2) + (f6 42 0 x1.toNatClampNeg)).toNatClampNeg)) :: [])) rfl ?_
        refine lv_icmp_ge (tgt := 70) hx hb dX7_whyNot_63 (by decide) (fun c14 => ?_) (fun c14 => ?_)
        · rw [if_pos c14] at h
          refine lv_iconst (v := 0) hx hb dX7_whyNot_70 (by decide) ?_
          obtain ⟨rfl, rfl⟩ := mm_pr h
          exact mm_iret C0 hR dX7_whyNot_71
        · rw [if_neg c14] at h
          refine lv_iconst (v := 3) hx hb dX7_whyNot_66 (by decide) ?_
          refine lv_goto (tgt := 71) hx hb dX7_whyNot_67 (by decide) ?_
          obtain ⟨rfl, rfl⟩ := mm_pr h
          exact mm_iret C0 hR dX7_whyNot_71
    · rw [if_neg c8] at h
      refine lv_iconst (v := 2) hx hb dX7_whyNot_27 (by decide) ?_
      obtain ⟨rfl, rfl⟩ := mm_pr h
      exact mm_iret C0 hR dX7_whyNot_28
  · rw [if_neg c3] at h
    refine lv_iconst (v := 1) hx hb dX7_whyNot_10 (by decide) ?_
    obtain ⟨rfl, rfl⟩ := mm_pr h
    exact mm_iret C0 hR dX7_whyNot_11
