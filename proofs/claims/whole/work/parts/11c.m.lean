def S_X7_grows_187 (f : F3) (x1 : Int32) (x2 : Int32) : Option F3 := if okI x1 10 then (if (f 30 0 x1.toNatClampNeg) = 3 then (if (-100) ≤ x2 then (some f) else (mm_let (up f 36 0 x1.toNatClampNeg ((f 36 0 x1.toNatClampNeg) + 1)) fun f12 => if (f12 36 0 x1.toNatClampNeg) = 24 then (Option.bind (S_X7_becomes f12 x1 0) fun f14 => mm_let (up f14 35 0 x1.toNatClampNeg 0) fun f15 => some f15) else (some f12))) else (some f)) else none
set_option maxHeartbeats 4000000 in
set_option maxRecDepth 100000 in
theorem L_X7_grows_187 {G : mmG} {p : Program} {e : Env} {s : State} {m : MethodId} {args : Array Value} {below : List Frame} {meth : Method} {c : Code} {f' : F3} (C0 : mmC yX7_grows cX7_grows 5 none p s m args meth c) {f : F3} {x1 : Int32} {x2 : Int32} (h : S_X7_grows_187 f x1 x2 = some f') (H : Heap) (locs : List Loc) (ls : Array Slot) (hR : mm_R G mm_NT f (GG f) s H locs) (hl : lv_has ls 5 [(0, .ref (ra G 20 0)), (1, .int x1), (2, .int x2)]) : W p G.1 e (mm_rm 1) s m args below meth c H locs 0 0 (MQ below (mm_Q G mm_NT none f' (GG f')) args s 0 0 (mm_A G)) (F0 m 187 ls []) := by
  obtain ⟨hx, hb, hml, hr, hown, hts, hlocks⟩ := id C0
  rw [S_X7_grows_187] at h
  refine lv_aload_n hx hb dX7_grows_187 rfl (lv_at hl 0 rfl) ?_
  refine mm_get hx hb hts hown hR 20 0 3 vl_20 (v := .ref (ra G 30 0)) rfl rfl iX7 (by decide) lk_140 rfl dX7_grows_188 ?_
  refine lv_iload_n hx hb dX7_grows_191 rfl (lv_at hl 1 rfl) ?_
  obtain ⟨z9, h⟩ := mm_if h
  refine mm_ild hx hb hR 30 0 vl_30 (L := 10) rfl (okI_in z9) dX7_grows_192 ?_
  refine lv_iconst (v := 3) hx hb dX7_grows_193 (by decide) ?_
  refine lv_icmp_ne (tgt := 237) hx hb dX7_grows_194 (by decide) (fun c10 => ?_) (fun c10 => ?_)
  · rw [if_neg c10] at h
    obtain rfl := mm_p1 h
    exact mm_vret C0 hR dX7_grows_237
  · rw [if_pos c10] at h
    refine lv_iload_n hx hb dX7_grows_197 rfl (lv_at hl 2 rfl) ?_
    refine lv_bipush (v := (-100)) hx hb dX7_grows_198 (by decide) ?_
    refine lv_icmp_ge (tgt := 237) hx hb dX7_grows_200 (by decide) (fun c11 => ?_) (fun c11 => ?_)
    · rw [if_pos c11] at h
      obtain rfl := mm_p1 h
      exact mm_vret C0 hR dX7_grows_237
    · rw [if_neg c11] at h
      refine lv_aload_n hx hb dX7_grows_203 rfl (lv_at hl 0 rfl) ?_
      refine mm_get hx hb hts hown hR 20 0 9 vl_20 (v := .ref (ra G 36 0)) rfl rfl iX7 (by decide) lk_175 rfl dX7_grows_204 ?_
      refine lv_iload_n hx hb dX7_grows_207 rfl (lv_at hl 1 rfl) ?_
      refine lv_dup2_11 hx hb dX7_grows_208 rfl rfl ?_
      refine mm_ild hx hb hR 36 0 vl_36 (L := 10) rfl (okI_in z9) dX7_grows_209 ?_
      refine lv_iconst (v := 1) hx hb dX7_grows_210 (by decide) ?_
      refine lv_iadd hx hb dX7_grows_211 ?_
      obtain ⟨f12, ef12, h⟩ := mm_lt h
      refine mm_ist hx hb hR 36 0 (by decide) vl_36 (L := 10) (j := x1) (x := (f 36 0 x1.toNatClampNeg) + 1) (fun _ => rfl) (okI_in z9) dX7_grows_212 (fun H locs hR => ?_)
      rw [← ef12] at hR
      refine lv_aload_n hx hb dX7_grows_213 rfl (lv_at hl 0 rfl) ?_
      refine mm_get hx hb hts hown hR 20 0 9 vl_20 (v := .ref (ra G 36 0)) rfl rfl iX7 (by decide) lk_175 rfl dX7_grows_214 ?_
      refine lv_iload_n hx hb dX7_grows_217 rfl (lv_at hl 1 rfl) ?_
      refine mm_ild hx hb hR 36 0 vl_36 (L := 10) rfl (okI_in z9) dX7_grows_218 ?_
      refine lv_bipush (v := 24) hx hb dX7_grows_219 (by decide) ?_
      refine lv_icmp_ne (tgt := 237) hx hb dX7_grows_221 (by decide) (fun c13 => ?_) (fun c13 => ?_)
      · rw [if_neg c13] at h
        obtain rfl := mm_p1 h
        exact mm_vret C0 hR dX7_grows_237
      · rw [if_pos c13] at h
        refine lv_aload_n hx hb dX7_grows_224 rfl (lv_at hl 0 rfl) ?_
        refine lv_iload_n hx hb dX7_grows_225 rfl (lv_at hl 1 rfl) ?_
        refine lv_iconst (v := 0) hx hb dX7_grows_226 (by decide) ?_
        obtain ⟨f14, ef14, h⟩ := mm_bind h
        refine mm_callV (v := none) (f1 := f14) (d0 := 0) (rest := []) [.int x1, .int 0] C0 rfl hR 20 0 (T_X7_becomes G ef14) ws_X7_becomes lk_153 hd_X7_becomes ⟨by decide, by decide⟩ vl_20 rfl rfl rfl hl.1 rfl (Nat.le_of_ble_eq_true rfl) dX7_grows_227 (fun H locs hR => ?_)
        refine W.eq (g2 := F0 m 230 ls ([])) rfl ?_
        refine lv_aload_n hx hb dX7_grows_230 rfl (lv_at hl 0 rfl) ?_
        refine mm_get hx hb hts hown hR 20 0 8 vl_20 (v := .ref (ra G 35 0)) rfl rfl iX7 (by decide) lk_155 rfl dX7_grows_231 ?_
        refine lv_iload_n hx hb dX7_grows_234 rfl (lv_at hl 1 rfl) ?_
        refine lv_iconst (v := 0) hx hb dX7_grows_235 (by decide) ?_
        obtain ⟨f15, ef15, h⟩ := mm_lt h
        refine mm_ist hx hb hR 35 0 (by decide) vl_35 (L := 10) (j := x1) (x := 0) (fun _ => rfl) (okI_in z9) dX7_grows_236 (fun H locs hR => ?_)
        rw [← ef15] at hR
        obtain rfl := mm_p1 h
        exact mm_vret C0 hR dX7_grows_237
def S_X7_grows_186 (f : F3) (s1 : Int32) (s2 : Int32) (x1 : Int32) (x2 : Int32) : Option F3 := if okI s1 10 then (mm_let (up f 31 0 s1.toNatClampNeg s2) fun f17 => S_X7_grows_187 f17 x1 x2) else none
set_option maxHeartbeats 4000000 in
set_option maxRecDepth 100000 in
theorem L_X7_grows_186 {G : mmG} {p : Program} {e : Env} {s : State} {m : MethodId} {args : Array Value} {below : List Frame} {meth : Method} {c : Code} {f' : F3} (C0 : mmC yX7_grows cX7_grows 5 none p s m args meth c) {f : F3} {s1 : Int32} {s2 : Int32} {x1 : Int32} {x2 : Int32} (h : S_X7_grows_186 f s1 s2 x1 x2 = some f') (H : Heap) (locs : List Loc) (ls : Array Slot) (hR : mm_R G mm_NT f (GG f) s H locs) (hl : lv_has ls 5 [(0, .ref (ra G 20 0)), (1, .int x1), (2, .int x2)]) : W p G.1 e (mm_rm 1) s m args below meth c H locs 0 0 (MQ below (mm_Q G mm_NT none f' (GG f')) args s 0 0 (mm_A G)) (F0 m 186 ls [.int s2, .int s1, .ref (ra G 31 0)]) := by
  obtain ⟨hx, hb, hml, hr, hown, hts, hlocks⟩ := id C0
  rw [S_X7_grows_186] at h
  obtain ⟨z16, h⟩ := mm_if h
  obtain ⟨f17, ef17, h⟩ := mm_lt h
  refine mm_ist hx hb hR 31 0 (by decide) vl_31 (L := 10) (j := s1) (x := s2) (fun _ => rfl) (okI_in z16) dX7_grows_186 (fun H locs hR => ?_)
  rw [← ef17] at hR
  exact L_X7_grows_187 C0 h _ _ _ hR (lv_sub hl [0, 1, 2] rfl)
def S_X7_grows_139 (f : F3) (s1 : Int32) (s2 : Int32) (x1 : Int32) (x2 : Int32) : Option F3 := if okI s1 10 then (mm_let (up f 31 0 s1.toNatClampNeg s2) fun f26 => S_X7_grows_187 f26 x1 x2) else none
set_option maxHeartbeats 4000000 in
set_option maxRecDepth 100000 in
theorem L_X7_grows_139 {G : mmG} {p : Program} {e : Env} {s : State} {m : MethodId} {args : Array Value} {below : List Frame} {meth : Method} {c : Code} {f' : F3} (C0 : mmC yX7_grows cX7_grows 5 none p s m args meth c) {f : F3} {s1 : Int32} {s2 : Int32} {x1 : Int32} {x2 : Int32} (h : S_X7_grows_139 f s1 s2 x1 x2 = some f') (H : Heap) (locs : List Loc) (ls : Array Slot) (hR : mm_R G mm_NT f (GG f) s H locs) (hl : lv_has ls 5 [(0, .ref (ra G 20 0)), (1, .int x1), (2, .int x2)]) : W p G.1 e (mm_rm 1) s m args below meth c H locs 0 0 (MQ below (mm_Q G mm_NT none f' (GG f')) args s 0 0 (mm_A G)) (F0 m 139 ls [.int s2, .int s1, .ref (ra G 31 0)]) := by
  obtain ⟨hx, hb, hml, hr, hown, hts, hlocks⟩ := id C0
  rw [S_X7_grows_139] at h
  obtain ⟨z25, h⟩ := mm_if h
  obtain ⟨f26, ef26, h⟩ := mm_lt h
  refine mm_ist hx hb hR 31 0 (by decide) vl_31 (L := 10) (j := s1) (x := s2) (fun _ => rfl) (okI_in z25) dX7_grows_139 (fun H locs hR => ?_)
  rw [← ef26] at hR
  refine lv_goto (tgt := 187) hx hb dX7_grows_140 (by decide) ?_
  exact L_X7_grows_187 C0 h _ _ _ hR (lv_sub hl [0, 1, 2] rfl)
def S_X7_grows_77 (f : F3) (s0 : Int32) (x1 : Int32) (x2 : Int32) (x3 : Int32) : Option F3 := if okI x1 10 then (if ¬ ((100 + ((f 31 0 x1.toNatClampNeg) / 10)) + (3 * s0)) = 0 then (mm_let (up f 31 0 x1.toNatClampNeg ((f 31 0 x1.toNatClampNeg) + (((-x2) * x3) / ((100 + ((f 31 0 x1.toNatClampNeg) / 10)) + (3 * s0))))) fun f23 => if (f23 31 0 x1.toNatClampNeg) ≤ 3000 then (S_X7_grows_139 f23 x1 (f23 31 0 x1.toNatClampNeg) x1 x2) else (S_X7_grows_139 f23 x1 3000 x1 x2)) else none) else none
set_option maxHeartbeats 4000000 in
set_option maxRecDepth 100000 in
theorem L_X7_grows_77 {G : mmG} {p : Program} {e : Env} {s : State} {m : MethodId} {args : Array Value} {below : List Frame} {meth : Method} {c : Code} {f' : F3} (C0 : mmC yX7_grows cX7_grows 5 none p s m args meth c) {f : F3} {s0 : Int32} {x1 : Int32} {x2 : Int32} {x3 : Int32} (h : S_X7_grows_77 f s0 x1 x2 x3 = some f') (H : Heap) (locs : List Loc) (ls : Array Slot) (hR : mm_R G mm_NT f (GG f) s H locs) (hl : lv_has ls 5 [(0, .ref (ra G 20 0)), (1, .int x1), (2, .int x2), (3, .int x3)]) : W p G.1 e (mm_rm 1) s m args below meth c H locs 0 0 (MQ below (mm_Q G mm_NT none f' (GG f')) args s 0 0 (mm_A G)) (F0 m 77 ls [.int s0]) := by
  obtain ⟨hx, hb, hml, hr, hown, hts, hlocks⟩ := id C0
  rw [S_X7_grows_77] at h
  refine lv_istore (lv' := [(4, .int s0), (0, .ref (ra G 20 0)), (1, .int x1), (2, .int x2), (3, .int x3)]) hx hb dX7_grows_77 hl (by decide) rfl (fun ls hl => ?_)
  refine lv_aload_n hx hb dX7_grows_79 rfl (lv_at hl 1 rfl) ?_
  refine mm_get hx hb hts hown hR 20 0 4 vl_20 (v := .ref (ra G 31 0)) rfl rfl iX7 (by decide) lk_141 rfl dX7_grows_80 ?_
  refine lv_iload_n hx hb dX7_grows_83 rfl (lv_at hl 2 rfl) ?_
  refine lv_dup2_11 hx hb dX7_grows_84 rfl rfl ?_
  obtain ⟨z21, h⟩ := mm_if h
  refine mm_ild hx hb hR 31 0 vl_31 (L := 10) rfl (okI_in z21) dX7_grows_85 ?_
  refine lv_iload_n hx hb dX7_grows_86 rfl (lv_at hl 3 rfl) ?_
  refine lv_ineg hx hb dX7_grows_87 ?_
  refine lv_iload_n hx hb dX7_grows_88 rfl (lv_at hl 4 rfl) ?_
  refine lv_imul hx hb dX7_grows_89 ?_
  refine lv_bipush (v := 100) hx hb dX7_grows_90 (by decide) ?_
  refine lv_aload_n hx hb dX7_grows_92 rfl (lv_at hl 1 rfl) ?_
  refine mm_get hx hb hts hown hR 20 0 4 vl_20 (v := .ref (ra G 31 0)) rfl rfl iX7 (by decide) lk_141 rfl dX7_grows_93 ?_
  refine lv_iload_n hx hb dX7_grows_96 rfl (lv_at hl 2 rfl) ?_
  refine mm_ild hx hb hR 31 0 vl_31 (L := 10) rfl (okI_in z21) dX7_grows_97 ?_
  refine lv_bipush (v := 10) hx hb dX7_grows_98 (by decide) ?_
  refine lv_idiv hx hb dX7_grows_100 (by decide) ?_
  refine lv_iadd hx hb dX7_grows_101 ?_
  refine lv_iconst (v := 3) hx hb dX7_grows_102 (by decide) ?_
  refine lv_iload hx hb dX7_grows_103 (lv_at hl 0 rfl) ?_
  refine lv_imul hx hb dX7_grows_105 ?_
  refine lv_iadd hx hb dX7_grows_106 ?_
  obtain ⟨z22, h⟩ := mm_if h
  refine lv_idiv hx hb dX7_grows_107 z22 ?_
  refine lv_iadd hx hb dX7_grows_108 ?_
  obtain ⟨f23, ef23, h⟩ := mm_lt h
  refine mm_ist hx hb hR 31 0 (by decide) vl_31 (L := 10) (j := x1) (x := (f 31 0 x1.toNatClampNeg) + (((-x2) * x3) / ((100 + ((f 31 0 x1.toNatClampNeg) / 10)) + (3 * s0)))) (fun _ => rfl) (okI_in z21) dX7_grows_109 (fun H locs hR => ?_)
  rw [← ef23] at hR
  refine lv_aload_n hx hb dX7_grows_110 rfl (lv_at hl 1 rfl) ?_
  refine mm_get hx hb hts hown hR 20 0 4 vl_20 (v := .ref (ra G 31 0)) rfl rfl iX7 (by decide) lk_141 rfl dX7_grows_111 ?_
  refine lv_iload_n hx hb dX7_grows_114 rfl (lv_at hl 2 rfl) ?_
  refine lv_aload_n hx hb dX7_grows_115 rfl (lv_at hl 1 rfl) ?_
  refine mm_get hx hb hts hown hR 20 0 4 vl_20 (v := .ref (ra G 31 0)) rfl rfl iX7 (by decide) lk_141 rfl dX7_grows_116 ?_
  refine lv_iload_n hx hb dX7_grows_119 rfl (lv_at hl 2 rfl) ?_
  refine mm_ild hx hb hR 31 0 vl_31 (L := 10) rfl (okI_in z21) dX7_grows_120 ?_
  refine lv_sipush (v := 3000) hx hb dX7_grows_121 (by decide) ?_
  refine lv_icmp_le (tgt := 133) hx hb dX7_grows_124 (by decide) (fun c24 => ?_) (fun c24 => ?_)
  · rw [if_pos c24] at h
    refine lv_aload_n hx hb dX7_grows_133 rfl (lv_at hl 1 rfl) ?_
    refine mm_get hx hb hts hown hR 20 0 4 vl_20 (v := .ref (ra G 31 0)) rfl rfl iX7 (by decide) lk_141 rfl dX7_grows_134 ?_
    refine lv_iload_n hx hb dX7_grows_137 rfl (lv_at hl 2 rfl) ?_
    refine mm_ild hx hb hR 31 0 vl_31 (L := 10) rfl (okI_in z21) dX7_grows_138 ?_
    exact L_X7_grows_139 C0 h _ _ _ hR (lv_sub hl [1, 2, 3] rfl)
  · rw [if_neg c24] at h
    refine lv_sipush (v := 3000) hx hb dX7_grows_127 (by decide) ?_
    refine lv_goto (tgt := 139) hx hb dX7_grows_130 (by decide) ?_
    exact L_X7_grows_139 C0 h _ _ _ hR (lv_sub hl [1, 2, 3] rfl)
def S_X7_grows_67 (f : F3) (x1 : Int32) (x2 : Int32) (x3 : Int32) : Option F3 := S_X7_grows_77 f 0 x1 x2 x3
set_option maxHeartbeats 4000000 in
set_option maxRecDepth 100000 in
theorem L_X7_grows_67 {G : mmG} {p : Program} {e : Env} {s : State} {m : MethodId} {args : Array Value} {below : List Frame} {meth : Method} {c : Code} {f' : F3} (C0 : mmC yX7_grows cX7_grows 5 none p s m args meth c) {f : F3} {x1 : Int32} {x2 : Int32} {x3 : Int32} (h : S_X7_grows_67 f x1 x2 x3 = some f') (H : Heap) (locs : List Loc) (ls : Array Slot) (hR : mm_R G mm_NT f (GG f) s H locs) (hl : lv_has ls 5 [(0, .ref (ra G 20 0)), (1, .int x1), (2, .int x2), (3, .int x3)]) : W p G.1 e (mm_rm 1) s m args below meth c H locs 0 0 (MQ below (mm_Q G mm_NT none f' (GG f')) args s 0 0 (mm_A G)) (F0 m 67 ls []) := by
  obtain ⟨hx, hb, hml, hr, hown, hts, hlocks⟩ := id C0
  rw [S_X7_grows_67] at h
  refine lv_iconst (v := 0) hx hb dX7_grows_67 (by decide) ?_
  refine lv_goto (tgt := 77) hx hb dX7_grows_68 (by decide) ?_
  exact L_X7_grows_77 C0 h _ _ _ hR (lv_sub hl [0, 1, 2, 3] rfl)
def S_X7_grows_46 (f : F3) (s0 : Int32) (x1 : Int32) (x2 : Int32) : Option F3 := if okI x1 10 then (if (f 30 0 x1.toNatClampNeg) = 1 then (S_X7_grows_67 f x1 x2 s0) else (if (f 30 0 x1.toNatClampNeg) = 2 then (S_X7_grows_67 f x1 x2 s0) else (S_X7_grows_77 f (f 32 0 x1.toNatClampNeg) x1 x2 s0))) else none
set_option maxHeartbeats 4000000 in
set_option maxRecDepth 100000 in
theorem L_X7_grows_46 {G : mmG} {p : Program} {e : Env} {s : State} {m : MethodId} {args : Array Value} {below : List Frame} {meth : Method} {c : Code} {f' : F3} (C0 : mmC yX7_grows cX7_grows 5 none p s m args meth c) {f : F3} {s0 : Int32} {x1 : Int32} {x2 : Int32} (h : S_X7_grows_46 f s0 x1 x2 = some f') (H : Heap) (locs : List Loc) (ls : Array Slot) (hR : mm_R G mm_NT f (GG f) s H locs) (hl : lv_has ls 5 [(0, .ref (ra G 20 0)), (1, .int x1), (2, .int x2)]) : W p G.1 e (mm_rm 1) s m args below meth c H locs 0 0 (MQ below (mm_Q G mm_NT none f' (GG f')) args s 0 0 (mm_A G)) (F0 m 46 ls [.int s0]) := by
  obtain ⟨hx, hb, hml, hr, hown, hts, hlocks⟩ := id C0
  rw [S_X7_grows_46] at h
  refine lv_istore_n (lv' := [(3, .int s0), (0, .ref (ra G 20 0)), (1, .int x1), (2, .int x2)]) hx hb dX7_grows_46 rfl hl (by decide) rfl (fun ls hl => ?_)
  refine lv_aload_n hx hb dX7_grows_47 rfl (lv_at hl 1 rfl) ?_
  refine mm_get hx hb hts hown hR 20 0 3 vl_20 (v := .ref (ra G 30 0)) rfl rfl iX7 (by decide) lk_140 rfl dX7_grows_48 ?_
  refine lv_iload_n hx hb dX7_grows_51 rfl (lv_at hl 2 rfl) ?_
  obtain ⟨z18, h⟩ := mm_if h
  refine mm_ild hx hb hR 30 0 vl_30 (L := 10) rfl (okI_in z18) dX7_grows_52 ?_
  refine lv_iconst (v := 1) hx hb dX7_grows_53 (by decide) ?_
  refine lv_icmp_eq (tgt := 67) hx hb dX7_grows_54 (by decide) (fun c19 => ?_) (fun c19 => ?_)
  · rw [if_pos c19] at h
    exact L_X7_grows_67 C0 h _ _ _ hR (lv_sub hl [1, 2, 3, 0] rfl)
  · rw [if_neg c19] at h
    refine lv_aload_n hx hb dX7_grows_57 rfl (lv_at hl 1 rfl) ?_
    refine mm_get hx hb hts hown hR 20 0 3 vl_20 (v := .ref (ra G 30 0)) rfl rfl iX7 (by decide) lk_140 rfl dX7_grows_58 ?_
    refine lv_iload_n hx hb dX7_grows_61 rfl (lv_at hl 2 rfl) ?_
    refine mm_ild hx hb hR 30 0 vl_30 (L := 10) rfl (okI_in z18) dX7_grows_62 ?_
    refine lv_iconst (v := 2) hx hb dX7_grows_63 (by decide) ?_
    refine lv_icmp_ne (tgt := 71) hx hb dX7_grows_64 (by decide) (fun c20 => ?_) (fun c20 => ?_)
    · rw [if_neg c20] at h
      refine lv_aload_n hx hb dX7_grows_71 rfl (lv_at hl 1 rfl) ?_
      refine mm_get hx hb hts hown hR 20 0 5 vl_20 (v := .ref (ra G 32 0)) rfl rfl iX7 (by decide) lk_154 rfl dX7_grows_72 ?_
      refine lv_iload_n hx hb dX7_grows_75 rfl (lv_at hl 2 rfl) ?_
      refine mm_ild hx hb hR 32 0 vl_32 (L := 10) rfl (okI_in z18) dX7_grows_76 ?_
      exact L_X7_grows_77 C0 h _ _ _ hR (lv_sub hl [1, 2, 3, 0] rfl)
    · rw [if_pos c20] at h
      exact L_X7_grows_67 C0 h _ _ _ hR (lv_sub hl [1, 2, 3, 0] rfl)
def S_X7_grows (f : F3) (x1 : Int32) (x2 : Int32) : Option F3 := if okI x1 10 then (if (f 30 0 x1.toNatClampNeg) = 4 then (some f) else (if 0 ≤ x2 then (if x2 ≤ 0 then (S_X7_grows_187 f x1 x2) else (mm_let (up f 31 0 x1.toNatClampNeg ((f 31 0 x1.toNatClampNeg) - ((x2 / 10) + 1))) fun f5 => if 0 ≤ (f5 31 0 x1.toNatClampNeg) then (S_X7_grows_186 f5 x1 (f5 31 0 x1.toNatClampNeg) x1 x2) else (S_X7_grows_186 f5 x1 0 x1 x2))) else (if (f 30 0 x1.toNatClampNeg) = 2 then (S_X7_grows_46 f 20 x1 x2) else (if (f 30 0 x1.toNatClampNeg) = 3 then (S_X7_grows_46 f 5 x1 x2) else (S_X7_grows_46 f 10 x1 x2))))) else none
set_option maxHeartbeats 4000000 in
set_option maxRecDepth 100000 in
theorem T_X7_grows (G : mmG) {f f' : F3} {x1 : Int32} {x2 : Int32} (h : S_X7_grows f x1 x2 = some f') : mmM G yX7_grows cX7_grows 5 none 1 [.ref (ra G 20 0), .int x1, .int x2] f none f' := by
  refine mm_start (by decide +kernel) (Nat.le_of_ble_eq_true rfl) ?_
  intro p e s m args below meth c ls C0 hR hl
  obtain ⟨hx, hb, hml, hr, hown, hts, hlocks⟩ := id C0
  have hl : lv_has ls 5 [(0, .ref (ra G 20 0)), (1, .int x1), (2, .int x2)] := hl
  rw [S_X7_grows] at h
  refine lv_aload_n hx hb dX7_grows_0 rfl (lv_at hl 0 rfl) ?_
  refine mm_get hx hb hts hown hR 20 0 3 vl_20 (v := .ref (ra G 30 0)) rfl rfl iX7 (by decide) lk_140 rfl dX7_grows_1 ?_
  refine lv_iload_n hx hb dX7_grows_4 rfl (lv_at hl 1 rfl) ?_
  obtain ⟨z1, h⟩ := mm_if h
  refine mm_ild hx hb hR 30 0 vl_30 (L := 10) rfl (okI_in z1) dX7_grows_5 ?_
  refine lv_iconst (v := 4) hx hb dX7_grows_6 (by decide) ?_
  refine lv_icmp_ne (tgt := 11) hx hb dX7_grows_7 (by decide) (fun c2 => ?_) (fun c2 => ?_)
  · rw [if_neg c2] at h
    refine lv_iload_n hx hb dX7_grows_11 rfl (lv_at hl 2 rfl) ?_
    refine lv_if_ge (tgt := 143) hx hb dX7_grows_12 (by decide) (fun c3 => ?_) (fun c3 => ?_)
    · rw [if_pos c3] at h
      refine lv_iload_n hx hb dX7_grows_143 rfl (lv_at hl 2 rfl) ?_
      refine lv_if_le (tgt := 187) hx hb dX7_grows_144 (by decide) (fun c4 => ?_) (fun c4 => ?_)
      · rw [if_pos c4] at h
        exact L_X7_grows_187 C0 h _ _ _ hR (lv_sub hl [0, 1, 2] rfl)
      · rw [if_neg c4] at h
        refine lv_aload_n hx hb dX7_grows_147 rfl (lv_at hl 0 rfl) ?_
        refine mm_get hx hb hts hown hR 20 0 4 vl_20 (v := .ref (ra G 31 0)) rfl rfl iX7 (by decide) lk_141 rfl dX7_grows_148 ?_
        refine lv_iload_n hx hb dX7_grows_151 rfl (lv_at hl 1 rfl) ?_
        refine lv_dup2_11 hx hb dX7_grows_152 rfl rfl ?_
        refine mm_ild hx hb hR 31 0 vl_31 (L := 10) rfl (okI_in z1) dX7_grows_153 ?_
        refine lv_iload_n hx hb dX7_grows_154 rfl (lv_at hl 2 rfl) ?_
        refine lv_bipush (v := 10) hx hb dX7_grows_155 (by decide) ?_
        refine lv_idiv hx hb dX7_grows_157 (by decide) ?_
        refine lv_iconst (v := 1) hx hb dX7_grows_158 (by decide) ?_
        refine lv_iadd hx hb dX7_grows_159 ?_
        refine lv_isub hx hb dX7_grows_160 ?_
        obtain ⟨f5, ef5, h⟩ := mm_lt h
        refine mm_ist hx hb hR 31 0 (by decide) vl_31 (L := 10) (j := x1) (x := (f 31 0 x1.toNatClampNeg) - ((x2 / 10) + 1)) (fun _ => rfl) (okI_in z1) dX7_grows_161 (fun H locs hR => ?_)
        rw [← ef5] at hR
        refine lv_aload_n hx hb dX7_grows_162 rfl (lv_at hl 0 rfl) ?_
        refine mm_get hx hb hts hown hR 20 0 4 vl_20 (v := .ref (ra G 31 0)) rfl rfl iX7 (by decide) lk_141 rfl dX7_grows_163 ?_
        refine lv_iload_n hx hb dX7_grows_166 rfl (lv_at hl 1 rfl) ?_
        refine lv_aload_n hx hb dX7_grows_167 rfl (lv_at hl 0 rfl) ?_
        refine mm_get hx hb hts hown hR 20 0 4 vl_20 (v := .ref (ra G 31 0)) rfl rfl iX7 (by decide) lk_141 rfl dX7_grows_168 ?_
        refine lv_iload_n hx hb dX7_grows_171 rfl (lv_at hl 1 rfl) ?_
        refine mm_ild hx hb hR 31 0 vl_31 (L := 10) rfl (okI_in z1) dX7_grows_172 ?_
        refine lv_if_ge (tgt := 180) hx hb dX7_grows_173 (by decide) (fun c6 => ?_) (fun c6 => ?_)
        · rw [if_pos c6] at h
          refine lv_aload_n hx hb dX7_grows_180 rfl (lv_at hl 0 rfl) ?_
          refine mm_get hx hb hts hown hR 20 0 4 vl_20 (v := .ref (ra G 31 0)) rfl rfl iX7 (by decide) lk_141 rfl dX7_grows_181 ?_
          refine lv_iload_n hx hb dX7_grows_184 rfl (lv_at hl 1 rfl) ?_
          refine mm_ild hx hb hR 31 0 vl_31 (L := 10) rfl (okI_in z1) dX7_grows_185 ?_
          exact L_X7_grows_186 C0 h _ _ _ hR (lv_sub hl [0, 1, 2] rfl)
        · rw [if_neg c6] at h
          refine lv_iconst (v := 0) hx hb dX7_grows_176 (by decide) ?_
          refine lv_goto (tgt := 186) hx hb dX7_grows_177 (by decide) ?_
          exact L_X7_grows_186 C0 h _ _ _ hR (lv_sub hl [0, 1, 2] rfl)
    · rw [if_neg c3] at h
      refine lv_aload_n hx hb dX7_grows_15 rfl (lv_at hl 0 rfl) ?_
      refine mm_get hx hb hts hown hR 20 0 3 vl_20 (v := .ref (ra G 30 0)) rfl rfl iX7 (by decide) lk_140 rfl dX7_grows_16 ?_
      refine lv_iload_n hx hb dX7_grows_19 rfl (lv_at hl 1 rfl) ?_
      refine mm_ild hx hb hR 30 0 vl_30 (L := 10) rfl (okI_in z1) dX7_grows_20 ?_
      refine lv_iconst (v := 2) hx hb dX7_grows_21 (by decide) ?_
      refine lv_icmp_ne (tgt := 30) hx hb dX7_grows_22 (by decide) (fun c7 => ?_) (fun c7 => ?_)
      · rw [if_neg c7] at h
        refine lv_aload_n hx hb dX7_grows_30 rfl (lv_at hl 0 rfl) ?_
        refine mm_get hx hb hts hown hR 20 0 3 vl_20 (v := .ref (ra G 30 0)) rfl rfl iX7 (by decide) lk_140 rfl dX7_grows_31 ?_
        refine lv_iload_n hx hb dX7_grows_34 rfl (lv_at hl 1 rfl) ?_
        refine mm_ild hx hb hR 30 0 vl_30 (L := 10) rfl (okI_in z1) dX7_grows_35 ?_
        refine lv_iconst (v := 3) hx hb dX7_grows_36 (by decide) ?_
        refine lv_icmp_ne (tgt := 44) hx hb dX7_grows_37 (by decide) (fun c8 => ?_) (fun c8 => ?_)
        · rw [if_neg c8] at h
          refine lv_bipush (v := 10) hx hb dX7_grows_44 (by decide) ?_
          exact L_X7_grows_46 C0 h _ _ _ hR (lv_sub hl [0, 1, 2] rfl)
        · rw [if_pos c8] at h
          refine lv_iconst (v := 5) hx hb dX7_grows_40 (by decide) ?_
          refine lv_goto (tgt := 46) hx hb dX7_grows_41 (by decide) ?_
          exact L_X7_grows_46 C0 h _ _ _ hR (lv_sub hl [0, 1, 2] rfl)
      · rw [if_pos c7] at h
        refine lv_bipush (v := 20) hx hb dX7_grows_25 (by decide) ?_
        refine lv_goto (tgt := 46) hx hb dX7_grows_27 (by decide) ?_
        exact L_X7_grows_46 C0 h _ _ _ hR (lv_sub hl [0, 1, 2] rfl)
  · rw [if_pos c2] at h
    obtain rfl := mm_p1 h
    exact mm_vret C0 hR dX7_grows_10
def S_X7_next_53 (k4 : F3 → Int32 → Int32 → Int32 → Option (Int32 × F3)) (f : F3) (x1 : Int32) (x2 : Int32) (x3 : Int32) : Option (Int32 × F3) := k4 f x1 x2 (x3 + 1)
set_option maxHeartbeats 4000000 in
set_option maxRecDepth 100000 in
theorem L_X7_next_53 {G : mmG} {p : Program} {e : Env} {s : State} {m : MethodId} {args : Array Value} {below : List Frame} {meth : Method} {c : Code} {f' : F3} {rv : Int32} (C0 : mmC yX7_next cX7_next 4 (some .int) p s m args meth c) {k4 : F3 → Int32 → Int32 → Int32 → Option (Int32 × F3)} (hk4 : ∀ (f : F3) (x1 : Int32) (x2 : Int32) (x3 : Int32), k4 f x1 x2 x3 = some (rv, f') → ∀ (H : Heap) (locs : List Loc) (ls : Array Slot), mm_R G mm_NT f (GG f) s H locs → lv_has ls 4 [(0, .ref (ra G 20 0)), (1, .int x1), (2, .int x2), (3, .int x3)] → W p G.1 e (mm_rm 0) s m args below meth c H locs 0 0 (MQ below (mm_Q G mm_NT (some (.int rv)) f' (GG f')) args s 0 0 (mm_A G)) (F0 m 4 ls [])) {f : F3} {x1 : Int32} {x2 : Int32} {x3 : Int32} (h : S_X7_next_53 k4 f x1 x2 x3 = some (rv, f')) (H : Heap) (locs : List Loc) (ls : Array Slot) (hR : mm_R G mm_NT f (GG f) s H locs) (hl : lv_has ls 4 [(0, .ref (ra G 20 0)), (1, .int x1), (2, .int x2), (3, .int x3)]) : W p G.1 e (mm_rm 0) s m args below meth c H locs 0 0 (MQ below (mm_Q G mm_NT (some (.int rv)) f' (GG f')) args s 0 0 (mm_A G)) (F0 m 53 ls []) := by
  obtain ⟨hx, hb, hml, hr, hown, hts, hlocks⟩ := id C0
  rw [S_X7_next_53] at h
  refine lv_iinc (v := x3 + 1) (lv' := [(3, .int (x3 + 1)), (0, .ref (ra G 20 0)), (1, .int x1), (2, .int x2)]) hx hb dX7_next_53 hl (k := 3) rfl rfl (by decide) rfl (fun ls hl => ?_)
  refine lv_goto (tgt := 4) hx hb dX7_next_56 (by decide) ?_
  exact hk4 _ x1 x2 (x3 + 1)  h _ _ _ hR (lv_sub hl [1, 2, 3, 0] rfl)
def S_X7_next_51 (k4 : F3 → Int32 → Int32 → Int32 → Option (Int32 × F3)) (f : F3) (x1 : Int32) (x3 : Int32) : Option (Int32 × F3) := S_X7_next_53 k4 f x1 x3 x3
set_option maxHeartbeats 4000000 in
set_option maxRecDepth 100000 in
theorem L_X7_next_51 {G : mmG} {p : Program} {e : Env} {s : State} {m : MethodId} {args : Array Value} {below : List Frame} {meth : Method} {c : Code} {f' : F3} {rv : Int32} (C0 : mmC yX7_next cX7_next 4 (some .int) p s m args meth c) {k4 : F3 → Int32 → Int32 → Int32 → Option (Int32 × F3)} (hk4 : ∀ (f : F3) (x1 : Int32) (x2 : Int32) (x3 : Int32), k4 f x1 x2 x3 = some (rv, f') → ∀ (H : Heap) (locs : List Loc) (ls : Array Slot), mm_R G mm_NT f (GG f) s H locs → lv_has ls 4 [(0, .ref (ra G 20 0)), (1, .int x1), (2, .int x2), (3, .int x3)] → W p G.1 e (mm_rm 0) s m args below meth c H locs 0 0 (MQ below (mm_Q G mm_NT (some (.int rv)) f' (GG f')) args s 0 0 (mm_A G)) (F0 m 4 ls [])) {f : F3} {x1 : Int32} {x3 : Int32} (h : S_X7_next_51 k4 f x1 x3 = some (rv, f')) (H : Heap) (locs : List Loc) (ls : Array Slot) (hR : mm_R G mm_NT f (GG f) s H locs) (hl : lv_has ls 4 [(0, .ref (ra G 20 0)), (1, .int x1), (3, .int x3)]) : W p G.1 e (mm_rm 0) s m args below meth c H locs 0 0 (MQ below (mm_Q G mm_NT (some (.int rv)) f' (GG f')) args s 0 0 (mm_A G)) (F0 m 51 ls []) := by
  obtain ⟨hx, hb, hml, hr, hown, hts, hlocks⟩ := id C0
  rw [S_X7_next_51] at h
  refine lv_iload_n hx hb dX7_next_51 rfl (lv_at hl 2 rfl) ?_
  refine lv_istore_n (lv' := [(2, .int x3), (0, .ref (ra G 20 0)), (1, .int x1), (3, .int x3)]) hx hb dX7_next_52 rfl hl (by decide) rfl (fun ls hl => ?_)
  exact L_X7_next_53 C0 hk4 h _ _ _ hR (lv_sub hl [1, 2, 0, 3] rfl)
def S_X7_next_4 : Nat → F3 → Int32 → Int32 → Int32 → Option (Int32 × F3)
  | 0, _, _, _, _ => none
  | n + 1, f, x1, x2, x3 => if (f 20 0 13) ≤ x3 then (some (x2, f)) else (if okI x3 24 then (if (f 24 0 x3.toNatClampNeg) = 0 then (if (f 43 0 x3.toNatClampNeg) = x1 then (if x2 = (-1) then (S_X7_next_51 (fun f9 x1_ x2_ x3_ => S_X7_next_4 n f9 x1_ x2_ x3_) f x1 x3) else (if okI x2 24 then (if (f 41 0 x3.toNatClampNeg) ≤ (f 41 0 x2.toNatClampNeg) then (S_X7_next_53 (fun f9 x1_ x2_ x3_ => S_X7_next_4 n f9 x1_ x2_ x3_) f x1 x2 x3) else (S_X7_next_51 (fun f9 x1_ x2_ x3_ => S_X7_next_4 n f9 x1_ x2_ x3_) f x1 x3)) else none)) else (S_X7_next_53 (fun f9 x1_ x2_ x3_ => S_X7_next_4 n f9 x1_ x2_ x3_) f x1 x2 x3)) else (S_X7_next_53 (fun f9 x1_ x2_ x3_ => S_X7_next_4 n f9 x1_ x2_ x3_) f x1 x2 x3)) else none)
set_option maxHeartbeats 4000000 in
set_option maxRecDepth 100000 in
theorem L_X7_next_4 {G : mmG} {p : Program} {e : Env} {s : State} {m : MethodId} {args : Array Value} {below : List Frame} {meth : Method} {c : Code} {f' : F3} {rv : Int32} (C0 : mmC yX7_next cX7_next 4 (some .int) p s m args meth c) : ∀ (n : Nat) {f : F3} {x1 : Int32} {x2 : Int32} {x3 : Int32} , S_X7_next_4 n f x1 x2 x3 = some (rv, f') → ∀ (H : Heap) (locs : List Loc) (ls : Array Slot), mm_R G mm_NT f (GG f) s H locs → lv_has ls 4 [(0, .ref (ra G 20 0)), (1, .int x1), (2, .int x2), (3, .int x3)] → W p G.1 e (mm_rm 0) s m args below meth c H locs 0 0 (MQ below (mm_Q G mm_NT (some (.int rv)) f' (GG f')) args s 0 0 (mm_A G)) (F0 m 4 ls []) := by
  obtain ⟨hx, hb, hml, hr, hown, hts, hlocks⟩ := id C0
  intro n
  induction n with
  | zero =>
    intro f x1 x2 x3  h H locs ls hR hl
    cases h
  | succ n ih =>
    intro f x1 x2 x3  h H locs ls hR hl
    rw [S_X7_next_4] at h
    refine lv_iload_n hx hb dX7_next_4 rfl (lv_at hl 3 rfl) ?_
    refine lv_aload_n hx hb dX7_next_5 rfl (lv_at hl 0 rfl) ?_
    refine mm_get hx hb hts hown hR 20 0 13 vl_20 (v := .int (f 20 0 13)) rfl rfl iX7 (by decide) lk_149 rfl dX7_next_6 ?_
    refine lv_icmp_ge (tgt := 59) hx hb dX7_next_9 (by decide) (fun c1 => ?_) (fun c1 => ?_)
    · rw [if_pos c1] at h
      refine lv_iload_n hx hb dX7_next_59 rfl (lv_at hl 2 rfl) ?_
      obtain ⟨rfl, rfl⟩ := mm_pr h
      exact mm_iret C0 hR dX7_next_60
    · rw [if_neg c1] at h
      refine lv_aload_n hx hb dX7_next_12 rfl (lv_at hl 0 rfl) ?_
      refine mm_get hx hb hts hown hR 20 0 23 vl_20 (v := .ref (ra G 24 0)) rfl rfl iX7 (by decide) lk_190 rfl dX7_next_13 ?_
      refine lv_iload_n hx hb dX7_next_16 rfl (lv_at hl 3 rfl) ?_
      obtain ⟨z2, h⟩ := mm_if h
      refine mm_zld hx hb hR 24 0 vl_24 (L := 24) rfl (okI_in z2) dX7_next_17 ?_
      refine lv_if_ne (tgt := 53) hx hb dX7_next_18 (by decide) (fun c3 => ?_) (fun c3 => ?_)
      · rw [if_neg c3] at h
        exact L_X7_next_53 C0 (fun _ _ _ _ h9 H9 locs9 ls9 hR9 hl9 => ih h9 _ _ _ hR9 hl9) h _ _ _ hR (lv_sub hl [0, 1, 2, 3] rfl)
      · rw [if_pos c3] at h
        refine lv_aload_n hx hb dX7_next_21 rfl (lv_at hl 0 rfl) ?_
        refine mm_get hx hb hts hown hR 20 0 17 vl_20 (v := .ref (ra G 43 0)) rfl rfl iX7 (by decide) lk_150 rfl dX7_next_22 ?_
        refine lv_iload_n hx hb dX7_next_25 rfl (lv_at hl 3 rfl) ?_
        refine mm_ild hx hb hR 43 0 vl_43 (L := 24) rfl (okI_in z2) dX7_next_26 ?_
        refine lv_iload_n hx hb dX7_next_27 rfl (lv_at hl 1 rfl) ?_
        refine lv_icmp_ne (tgt := 53) hx hb dX7_next_28 (by decide) (fun c4 => ?_) (fun c4 => ?_)
        · rw [if_neg c4] at h
          exact L_X7_next_53 C0 (fun _ _ _ _ h9 H9 locs9 ls9 hR9 hl9 => ih h9 _ _ _ hR9 hl9) h _ _ _ hR (lv_sub hl [0, 1, 2, 3] rfl)
        · rw [if_pos c4] at h
          refine lv_iload_n hx hb dX7_next_31 rfl (lv_at hl 2 rfl) ?_
          refine lv_iconst (v := (-1)) hx hb dX7_next_32 (by decide) ?_
          refine lv_icmp_eq (tgt := 51) hx hb dX7_next_33 (by decide) (fun c5 => ?_) (fun c5 => ?_)
          · rw [if_pos c5] at h
            exact L_X7_next_51 C0 (fun _ _ _ _ h9 H9 locs9 ls9 hR9 hl9 => ih h9 _ _ _ hR9 hl9) h _ _ _ hR (lv_sub hl [0, 1, 3] rfl)
          · rw [if_neg c5] at h
            refine lv_aload_n hx hb dX7_next_36 rfl (lv_at hl 0 rfl) ?_
            refine mm_get hx hb hts hown hR 20 0 15 vl_20 (v := .ref (ra G 41 0)) rfl rfl iX7 (by decide) lk_159 rfl dX7_next_37 ?_
            refine lv_iload_n hx hb dX7_next_40 rfl (lv_at hl 3 rfl) ?_
            refine mm_ild hx hb hR 41 0 vl_41 (L := 24) rfl (okI_in z2) dX7_next_41 ?_
            refine lv_aload_n hx hb dX7_next_42 rfl (lv_at hl 0 rfl) ?_
            refine mm_get hx hb hts hown hR 20 0 15 vl_20 (v := .ref (ra G 41 0)) rfl rfl iX7 (by decide) lk_159 rfl dX7_next_43 ?_
            refine lv_iload_n hx hb dX7_next_46 rfl (lv_at hl 2 rfl) ?_
            obtain ⟨z6, h⟩ := mm_if h
            refine mm_ild hx hb hR 41 0 vl_41 (L := 24) rfl (okI_in z6) dX7_next_47 ?_
            refine lv_icmp_le (tgt := 53) hx hb dX7_next_48 (by decide) (fun c7 => ?_) (fun c7 => ?_)
            · rw [if_pos c7] at h
              exact L_X7_next_53 C0 (fun _ _ _ _ h9 H9 locs9 ls9 hR9 hl9 => ih h9 _ _ _ hR9 hl9) h _ _ _ hR (lv_sub hl [0, 1, 2, 3] rfl)
            · rw [if_neg c7] at h
              exact L_X7_next_51 C0 (fun _ _ _ _ h9 H9 locs9 ls9 hR9 hl9 => ih h9 _ _ _ hR9 hl9) h _ _ _ hR (lv_sub hl [0, 1, 3] rfl)
def S_X7_next (f : F3) (x1 : Int32) : Option (Int32 × F3) := S_X7_next_4 FU f x1 (-1) 0
set_option maxHeartbeats 4000000 in
set_option maxRecDepth 100000 in
theorem T_X7_next (G : mmG) {f f' : F3} {rv : Int32} {x1 : Int32} (h : S_X7_next f x1 = some (rv, f')) : mmM G yX7_next cX7_next 4 (some .int) 0 [.ref (ra G 20 0), .int x1] f (some (.int rv)) f' := by
  refine mm_start (by decide +kernel) (Nat.le_of_ble_eq_true rfl) ?_
  intro p e s m args below meth c ls C0 hR hl
  obtain ⟨hx, hb, hml, hr, hown, hts, hlocks⟩ := id C0
  have hl : lv_has ls 4 [(0, .ref (ra G 20 0)), (1, .int x1)] := hl
  rw [S_X7_next] at h
  refine lv_iconst (v := (-1)) hx hb dX7_next_0 (by decide) ?_
  refine lv_istore_n (lv' := [(2, .int (-1)), (0, .ref (ra G 20 0)), (1, .int x1)]) hx hb dX7_next_1 rfl hl (by decide) rfl (fun ls hl => ?_)
  refine lv_iconst (v := 0) hx hb dX7_next_2 (by decide) ?_
  refine lv_istore_n (lv' := [(3, .int 0), (2, .int (-1)), (0, .ref (ra G 20 0)), (1, .int x1)]) hx hb dX7_next_3 rfl hl (by decide) rfl (fun ls hl => ?_)
  exact L_X7_next_4 C0 _ h _ _ _ hR (lv_sub hl [2, 3, 1, 0] rfl)
def S_X7_goesOn_129 (f : F3) (s1 : Int32) (s2 : Int32) : Option F3 := Option.bind (S_X7_comes f s1 s2) fun f17 => some f17
set_option maxHeartbeats 4000000 in
set_option maxRecDepth 100000 in
theorem L_X7_goesOn_129 {G : mmG} {p : Program} {e : Env} {s : State} {m : MethodId} {args : Array Value} {below : List Frame} {meth : Method} {c : Code} {f' : F3} (C0 : mmC yX7_goesOn cX7_goesOn 4 none p s m args meth c) {f : F3} {s1 : Int32} {s2 : Int32} (h : S_X7_goesOn_129 f s1 s2 = some f') (H : Heap) (locs : List Loc) (ls : Array Slot) (hR : mm_R G mm_NT f (GG f) s H locs) (hl : lv_has ls 4 []) : W p G.1 e (mm_rm 6) s m args below meth c H locs 0 0 (MQ below (mm_Q G mm_NT none f' (GG f')) args s 0 0 (mm_A G)) (F0 m 129 ls [.int s2, .int s1, .ref (ra G 20 0)]) := by
  obtain ⟨hx, hb, hml, hr, hown, hts, hlocks⟩ := id C0
  rw [S_X7_goesOn_129] at h
  obtain ⟨f17, ef17, h⟩ := mm_bind h
  refine mm_callV (v := none) (f1 := f17) (d0 := 2) (rest := []) [.int s1, .int s2] C0 rfl hR 20 0 (T_X7_comes G ef17) ws_X7_comes lk_192 hd_X7_comes ⟨by decide, by decide⟩ vl_20 rfl rfl rfl hl.1 rfl (Nat.le_of_ble_eq_true rfl) dX7_goesOn_129 (fun H locs hR => ?_)
  refine W.eq (g2 := F0 m 132 ls ([])) rfl ?_
  obtain rfl := mm_p1 h
  exact mm_vret C0 hR dX7_goesOn_132
def S_X7_goesOn_103 (f : F3) (s1 : Int32) (s2 : Int32) (x1 : Int32) (x2 : Int32) : Option F3 := mm_b2 (S_X7_can f s1 s2) fun r13 f12 => if r13 = 0 then (some f12) else (if okI x1 24 then (if (f12 42 0 x1.toNatClampNeg) = 0 then (S_X7_goesOn_129 f12 x1 (x2 + 1)) else (S_X7_goesOn_129 f12 x1 (x2 - 1))) else none)
set_option maxHeartbeats 4000000 in
set_option maxRecDepth 100000 in
theorem L_X7_goesOn_103 {G : mmG} {p : Program} {e : Env} {s : State} {m : MethodId} {args : Array Value} {below : List Frame} {meth : Method} {c : Code} {f' : F3} (C0 : mmC yX7_goesOn cX7_goesOn 4 none p s m args meth c) {f : F3} {s1 : Int32} {s2 : Int32} {x1 : Int32} {x2 : Int32} (h : S_X7_goesOn_103 f s1 s2 x1 x2 = some f') (H : Heap) (locs : List Loc) (ls : Array Slot) (hR : mm_R G mm_NT f (GG f) s H locs) (hl : lv_has ls 4 [(0, .ref (ra G 20 0)), (1, .int x1), (2, .int x2)]) : W p G.1 e (mm_rm 6) s m args below meth c H locs 0 0 (MQ below (mm_Q G mm_NT none f' (GG f')) args s 0 0 (mm_A G)) (F0 m 103 ls [.int s2, .int s1, .ref (ra G 20 0)]) := by
  obtain ⟨hx, hb, hml, hr, hown, hts, hlocks⟩ := id C0
  rw [S_X7_goesOn_103] at h
  obtain ⟨r13, f12, ef12, h⟩ := mm_b2e h
  refine mm_callV (v := some (.int r13)) (f1 := f12) (d0 := 5) (rest := []) [.int s1, .int s2] C0 rfl hR 20 0 (T_X7_can G ef12) ws_X7_can lk_191 hd_X7_can ⟨by decide, by decide⟩ vl_20 rfl rfl rfl hl.1 rfl (Nat.le_of_ble_eq_true rfl) dX7_goesOn_103 (fun H locs hR => ?_)
  refine W.eq (g2 := F0 m 106 ls (.int r13 :: [])) rfl ?_
  refine lv_if_eq (tgt := 132) hx hb dX7_goesOn_106 (by decide) (fun c14 => ?_) (fun c14 => ?_)
  · rw [if_pos c14] at h
    obtain rfl := mm_p1 h
    exact mm_vret C0 hR dX7_goesOn_132
  · rw [if_neg c14] at h
    refine lv_aload_n hx hb dX7_goesOn_109 rfl (lv_at hl 0 rfl) ?_
    refine lv_iload_n hx hb dX7_goesOn_110 rfl (lv_at hl 1 rfl) ?_
    refine lv_aload_n hx hb dX7_goesOn_111 rfl (lv_at hl 0 rfl) ?_
    refine mm_get hx hb hts hown hR 20 0 16 vl_20 (v := .ref (ra G 42 0)) rfl rfl iX7 (by decide) lk_169 rfl dX7_goesOn_112 ?_
    refine lv_iload_n hx hb dX7_goesOn_115 rfl (lv_at hl 1 rfl) ?_
    obtain ⟨z15, h⟩ := mm_if h
    refine mm_ild hx hb hR 42 0 vl_42 (L := 24) rfl (okI_in z15) dX7_goesOn_116 ?_
    refine lv_if_ne (tgt := 126) hx hb dX7_goesOn_117 (by decide) (fun c16 => ?_) (fun c16 => ?_)
    · rw [if_neg c16] at h
      refine lv_iload_n hx hb dX7_goesOn_126 rfl (lv_at hl 2 rfl) ?_
      refine lv_iconst (v := 1) hx hb dX7_goesOn_127 (by decide) ?_
      refine lv_isub hx hb dX7_goesOn_128 ?_
      exact L_X7_goesOn_129 C0 h _ _ _ hR (lv_sub hl [] rfl)
    · rw [if_pos c16] at h
      refine lv_iload_n hx hb dX7_goesOn_120 rfl (lv_at hl 2 rfl) ?_
      refine lv_iconst (v := 1) hx hb dX7_goesOn_121 (by decide) ?_
      refine lv_iadd hx hb dX7_goesOn_122 ?_
      refine lv_goto (tgt := 129) hx hb dX7_goesOn_123 (by decide) ?_
      exact L_X7_goesOn_129 C0 h _ _ _ hR (lv_sub hl [] rfl)
def S_X7_goesOn_42 (f : F3) (s0 : Int32) (x1 : Int32) (x2 : Int32) : Option F3 := if x2 = s0 then (if okI x1 24 then (mm_let (up f 43 0 x1.toNatClampNeg 2) fun f9 => mm_let (up f9 46 0 x1.toNatClampNeg (f9 20 0 1)) fun f10 => mm_let (up f10 20 0 24 ((f10 20 0 24) + (f10 40 0 x1.toNatClampNeg))) fun f11 => some f11) else none) else (if okI x1 24 then (if (f 42 0 x1.toNatClampNeg) = 0 then (S_X7_goesOn_103 f x1 (x2 + 1) x1 x2) else (S_X7_goesOn_103 f x1 (x2 - 1) x1 x2)) else none)
set_option maxHeartbeats 4000000 in
set_option maxRecDepth 100000 in
theorem L_X7_goesOn_42 {G : mmG} {p : Program} {e : Env} {s : State} {m : MethodId} {args : Array Value} {below : List Frame} {meth : Method} {c : Code} {f' : F3} (C0 : mmC yX7_goesOn cX7_goesOn 4 none p s m args meth c) {f : F3} {s0 : Int32} {x1 : Int32} {x2 : Int32} (h : S_X7_goesOn_42 f s0 x1 x2 = some f') (H : Heap) (locs : List Loc) (ls : Array Slot) (hR : mm_R G mm_NT f (GG f) s H locs) (hl : lv_has ls 4 [(0, .ref (ra G 20 0)), (1, .int x1), (2, .int x2)]) : W p G.1 e (mm_rm 6) s m args below meth c H locs 0 0 (MQ below (mm_Q G mm_NT none f' (GG f')) args s 0 0 (mm_A G)) (F0 m 42 ls [.int s0]) := by
  obtain ⟨hx, hb, hml, hr, hown, hts, hlocks⟩ := id C0
  rw [S_X7_goesOn_42] at h
  refine lv_istore_n (lv' := [(3, .int s0), (0, .ref (ra G 20 0)), (1, .int x1), (2, .int x2)]) hx hb dX7_goesOn_42 rfl hl (by decide) rfl (fun ls hl => ?_)
  refine lv_iload_n hx hb dX7_goesOn_43 rfl (lv_at hl 3 rfl) ?_
  refine lv_iload_n hx hb dX7_goesOn_44 rfl (lv_at hl 0 rfl) ?_
  refine lv_icmp_ne (tgt := 83) hx hb dX7_goesOn_45 (by decide) (fun c5 => ?_) (fun c5 => ?_)
  · rw [if_neg c5] at h
    refine lv_aload_n hx hb dX7_goesOn_83 rfl (lv_at hl 1 rfl) ?_
    refine lv_iload_n hx hb dX7_goesOn_84 rfl (lv_at hl 2 rfl) ?_
    refine lv_aload_n hx hb dX7_goesOn_85 rfl (lv_at hl 1 rfl) ?_
    refine mm_get hx hb hts hown hR 20 0 16 vl_20 (v := .ref (ra G 42 0)) rfl rfl iX7 (by decide) lk_169 rfl dX7_goesOn_86 ?_
    refine lv_iload_n hx hb dX7_goesOn_89 rfl (lv_at hl 2 rfl) ?_
    obtain ⟨z6, h⟩ := mm_if h
    refine mm_ild hx hb hR 42 0 vl_42 (L := 24) rfl (okI_in z6) dX7_goesOn_90 ?_
    refine lv_if_ne (tgt := 100) hx hb dX7_goesOn_91 (by decide) (fun c7 => ?_) (fun c7 => ?_)
    · rw [if_neg c7] at h
      refine lv_iload_n hx hb dX7_goesOn_100 rfl (lv_at hl 3 rfl) ?_
      refine lv_iconst (v := 1) hx hb dX7_goesOn_101 (by decide) ?_
      refine lv_isub hx hb dX7_goesOn_102 ?_
      exact L_X7_goesOn_103 C0 h _ _ _ hR (lv_sub hl [1, 2, 3] rfl)
    · rw [if_pos c7] at h
      refine lv_iload_n hx hb dX7_goesOn_94 rfl (lv_at hl 3 rfl) ?_
      refine lv_iconst (v := 1) hx hb dX7_goesOn_95 (by decide) ?_
      refine lv_iadd hx hb dX7_goesOn_96 ?_
      refine lv_goto (tgt := 103) hx hb dX7_goesOn_97 (by decide) ?_
      exact L_X7_goesOn_103 C0 h _ _ _ hR (lv_sub hl [1, 2, 3] rfl)
  · rw [if_pos c5] at h
    refine lv_aload_n hx hb dX7_goesOn_48 rfl (lv_at hl 1 rfl) ?_
    refine mm_get hx hb hts hown hR 20 0 17 vl_20 (v := .ref (ra G 43 0)) rfl rfl iX7 (by decide) lk_150 rfl dX7_goesOn_49 ?_
    refine lv_iload_n hx hb dX7_goesOn_52 rfl (lv_at hl 2 rfl) ?_
    refine lv_iconst (v := 2) hx hb dX7_goesOn_53 (by decide) ?_
    obtain ⟨z8, h⟩ := mm_if h
    obtain ⟨f9, ef9, h⟩ := mm_lt h
    refine mm_ist hx hb hR 43 0 (by decide) vl_43 (L := 24) (j := x1) (x := 2) (fun _ => rfl) (okI_in z8) dX7_goesOn_54 (fun H locs hR => ?_)
    rw [← ef9] at hR
    refine lv_aload_n hx hb dX7_goesOn_55 rfl (lv_at hl 1 rfl) ?_
    refine mm_get hx hb hts hown hR 20 0 20 vl_20 (v := .ref (ra G 46 0)) rfl rfl iX7 (by decide) lk_178 rfl dX7_goesOn_56 ?_
    refine lv_iload_n hx hb dX7_goesOn_59 rfl (lv_at hl 2 rfl) ?_
    refine lv_aload_n hx hb dX7_goesOn_60 rfl (lv_at hl 1 rfl) ?_
    refine mm_get hx hb hts hown hR 20 0 1 vl_20 (v := .int (f9 20 0 1)) rfl rfl iX7 (by decide) lk_157 rfl dX7_goesOn_61 ?_
    obtain ⟨f10, ef10, h⟩ := mm_lt h
    refine mm_ist hx hb hR 46 0 (by decide) vl_46 (L := 24) (j := x1) (x := f9 20 0 1) (fun _ => rfl) (okI_in z8) dX7_goesOn_64 (fun H locs hR => ?_)
    rw [← ef10] at hR
    refine lv_aload_n hx hb dX7_goesOn_65 rfl (lv_at hl 1 rfl) ?_
    refine lv_dup hx hb dX7_goesOn_66 rfl ?_
    refine mm_get hx hb hts hown hR 20 0 24 vl_20 (v := .int (f10 20 0 24)) rfl rfl iX7 (by decide) lk_181 rfl dX7_goesOn_67 ?_
    refine lv_aload_n hx hb dX7_goesOn_70 rfl (lv_at hl 1 rfl) ?_
    refine mm_get hx hb hts hown hR 20 0 14 vl_20 (v := .ref (ra G 40 0)) rfl rfl iX7 (by decide) lk_160 rfl dX7_goesOn_71 ?_
    refine lv_iload_n hx hb dX7_goesOn_74 rfl (lv_at hl 2 rfl) ?_
    refine mm_ild hx hb hR 40 0 vl_40 (L := 24) rfl (okI_in z8) dX7_goesOn_75 ?_
    refine lv_iadd hx hb dX7_goesOn_76 ?_
    obtain ⟨f11, ef11, h⟩ := mm_lt h
    refine mm_put hx hb hts hown hR 20 0 24 (by decide) vl_20 (x := (f10 20 0 24) + (f10 40 0 x1.toNatClampNeg)) rfl rfl iX7 tyX7 tyX7_ok nmX7 (by decide) lk_181 rfl rfl rfl (Nat.le_of_ble_eq_true rfl) rfl dX7_goesOn_77 (fun H locs hR => ?_)
    rw [← ef11] at hR
    refine lv_goto (tgt := 132) hx hb dX7_goesOn_80 (by decide) ?_
    obtain rfl := mm_p1 h
    exact mm_vret C0 hR dX7_goesOn_132
def S_X7_goesOn (f : F3) (x1 : Int32) : Option F3 := if okI x1 24 then (if okI (f 44 0 x1.toNatClampNeg) 10 then (if (f 34 0 (f 44 0 x1.toNatClampNeg).toNatClampNeg) ≤ (f 45 0 x1.toNatClampNeg) then (if (f 42 0 x1.toNatClampNeg) = 0 then (S_X7_goesOn_42 f ((f 20 0 2) - 1) x1 (f 44 0 x1.toNatClampNeg)) else (S_X7_goesOn_42 f 0 x1 (f 44 0 x1.toNatClampNeg))) else (some f)) else none) else none
set_option maxHeartbeats 4000000 in
set_option maxRecDepth 100000 in
theorem T_X7_goesOn (G : mmG) {f f' : F3} {x1 : Int32} (h : S_X7_goesOn f x1 = some f') : mmM G yX7_goesOn cX7_goesOn 4 none 6 [.ref (ra G 20 0), .int x1] f none f' := by
  refine mm_start (by decide +kernel) (Nat.le_of_ble_eq_true rfl) ?_
  intro p e s m args below meth c ls C0 hR hl
  obtain ⟨hx, hb, hml, hr, hown, hts, hlocks⟩ := id C0
  have hl : lv_has ls 4 [(0, .ref (ra G 20 0)), (1, .int x1)] := hl
  rw [S_X7_goesOn] at h
  refine lv_aload_n hx hb dX7_goesOn_0 rfl (lv_at hl 0 rfl) ?_
  refine mm_get hx hb hts hown hR 20 0 18 vl_20 (v := .ref (ra G 44 0)) rfl rfl iX7 (by decide) lk_151 rfl dX7_goesOn_1 ?_
  refine lv_iload_n hx hb dX7_goesOn_4 rfl (lv_at hl 1 rfl) ?_
  obtain ⟨z1, h⟩ := mm_if h
  refine mm_ild hx hb hR 44 0 vl_44 (L := 24) rfl (okI_in z1) dX7_goesOn_5 ?_
  refine lv_istore_n (lv' := [(2, .int (f 44 0 x1.toNatClampNeg)), (0, .ref (ra G 20 0)), (1, .int x1)]) hx hb dX7_goesOn_6 rfl hl (by decide) rfl (fun ls hl => ?_)
  refine lv_aload_n hx hb dX7_goesOn_7 rfl (lv_at hl 1 rfl) ?_
  refine mm_get hx hb hts hown hR 20 0 19 vl_20 (v := .ref (ra G 45 0)) rfl rfl iX7 (by decide) lk_176 rfl dX7_goesOn_8 ?_
  refine lv_iload_n hx hb dX7_goesOn_11 rfl (lv_at hl 2 rfl) ?_
  refine mm_ild hx hb hR 45 0 vl_45 (L := 24) rfl (okI_in z1) dX7_goesOn_12 ?_
  refine lv_aload_n hx hb dX7_goesOn_13 rfl (lv_at hl 1 rfl) ?_
  refine mm_get hx hb hts hown hR 20 0 7 vl_20 (v := .ref (ra G 34 0)) rfl rfl iX7 (by decide) lk_172 rfl dX7_goesOn_14 ?_
  refine lv_iload_n hx hb dX7_goesOn_17 rfl (lv_at hl 0 rfl) ?_
  obtain ⟨z2, h⟩ := mm_if h
  refine mm_ild hx hb hR 34 0 vl_34 (L := 10) rfl (okI_in z2) dX7_goesOn_18 ?_
  refine lv_icmp_ge (tgt := 23) hx hb dX7_goesOn_19 (by decide) (fun c3 => ?_) (fun c3 => ?_)
  · rw [if_pos c3] at h
    refine lv_aload_n hx hb dX7_goesOn_23 rfl (lv_at hl 1 rfl) ?_
    refine mm_get hx hb hts hown hR 20 0 16 vl_20 (v := .ref (ra G 42 0)) rfl rfl iX7 (by decide) lk_169 rfl dX7_goesOn_24 ?_
    refine lv_iload_n hx hb dX7_goesOn_27 rfl (lv_at hl 2 rfl) ?_
    refine mm_ild hx hb hR 42 0 vl_42 (L := 24) rfl (okI_in z1) dX7_goesOn_28 ?_
    refine lv_if_ne (tgt := 41) hx hb dX7_goesOn_29 (by decide) (fun c4 => ?_) (fun c4 => ?_)
    · rw [if_neg c4] at h
      refine lv_iconst (v := 0) hx hb dX7_goesOn_41 (by decide) ?_
      exact L_X7_goesOn_42 C0 h _ _ _ hR (lv_sub hl [1, 2, 0] rfl)
    · rw [if_pos c4] at h
      refine lv_aload_n hx hb dX7_goesOn_32 rfl (lv_at hl 1 rfl) ?_
      refine mm_get hx hb hts hown hR 20 0 2 vl_20 (v := .int (f 20 0 2)) rfl rfl iX7 (by decide) lk_142 rfl dX7_goesOn_33 ?_
      refine lv_iconst (v := 1) hx hb dX7_goesOn_36 (by decide) ?_
      refine lv_isub hx hb dX7_goesOn_37 ?_
      refine lv_goto (tgt := 42) hx hb dX7_goesOn_38 (by decide) ?_
      exact L_X7_goesOn_42 C0 h _ _ _ hR (lv_sub hl [1, 2, 0] rfl)
  · rw [if_neg c3] at h
    obtain rfl := mm_p1 h
    exact mm_vret C0 hR dX7_goesOn_22
def S_X7_goesBy_163 (k116 : F3 → Int32 → Option F3) (f : F3)  : Option F3 := mm_b2 (S_X7_next f 0) fun r32 f31 => k116 f31 r32
set_option maxHeartbeats 4000000 in
set_option maxRecDepth 100000 in
theorem L_X7_goesBy_163 {G : mmG} {p : Program} {e : Env} {s : State} {m : MethodId} {args : Array Value} {below : List Frame} {meth : Method} {c : Code} {f' : F3} (C0 : mmC yX7_goesBy cX7_goesBy 4 none p s m args meth c) {k116 : F3 → Int32 → Option F3} (hk116 : ∀ (f : F3) (x2 : Int32), k116 f x2 = some f' → ∀ (H : Heap) (locs : List Loc) (ls : Array Slot), mm_R G mm_NT f (GG f) s H locs → lv_has ls 4 [(0, .ref (ra G 20 0)), (2, .int x2)] → W p G.1 e (mm_rm 7) s m args below meth c H locs 0 0 (MQ below (mm_Q G mm_NT none f' (GG f')) args s 0 0 (mm_A G)) (F0 m 116 ls [])) {f : F3} (h : S_X7_goesBy_163 k116 f = some f') (H : Heap) (locs : List Loc) (ls : Array Slot) (hR : mm_R G mm_NT f (GG f) s H locs) (hl : lv_has ls 4 [(0, .ref (ra G 20 0))]) : W p G.1 e (mm_rm 7) s m args below meth c H locs 0 0 (MQ below (mm_Q G mm_NT none f' (GG f')) args s 0 0 (mm_A G)) (F0 m 163 ls []) := by
  obtain ⟨hx, hb, hml, hr, hown, hts, hlocks⟩ := id C0
  rw [S_X7_goesBy_163] at h
  refine lv_aload_n hx hb dX7_goesBy_163 rfl (lv_at hl 0 rfl) ?_
  refine lv_iconst (v := 0) hx hb dX7_goesBy_164 (by decide) ?_
  obtain ⟨r32, f31, ef31, h⟩ := mm_b2e h
  refine mm_callV (v := some (.int r32)) (f1 := f31) (d0 := 0) (rest := []) [.int 0] C0 rfl hR 20 0 (T_X7_next G ef31) ws_X7_next lk_194 hd_X7_next ⟨by decide, by decide⟩ vl_20 rfl rfl rfl hl.1 rfl (Nat.le_of_ble_eq_true rfl) dX7_goesBy_165 (fun H locs hR => ?_)
  refine W.eq (g2 := F0 m 168 ls (.int r32 :: [])) rfl ?_
  refine lv_istore_n (lv' := [(2, .int r32), (0, .ref (ra G 20 0))]) hx hb dX7_goesBy_168 rfl hl (by decide) rfl (fun ls hl => ?_)
  refine lv_goto (tgt := 116) hx hb dX7_goesBy_169 (by decide) ?_
  exact hk116 _ r32  h _ _ _ hR (lv_sub hl [1, 0] rfl)
def S_X7_goesBy_147 (k116 : F3 → Int32 → Option F3) (f : F3) (s0 : Int32) (x2 : Int32) : Option F3 := mm_b2 (S_X7_can f x2 s0) fun r28 f27 => if r28 = 0 then (S_X7_goesBy_163 k116 f27 ) else (Option.bind (S_X7_comes f27 x2 s0) fun f30 => S_X7_goesBy_163 k116 f30 )
set_option maxHeartbeats 4000000 in
set_option maxRecDepth 100000 in
theorem L_X7_goesBy_147 {G : mmG} {p : Program} {e : Env} {s : State} {m : MethodId} {args : Array Value} {below : List Frame} {meth : Method} {c : Code} {f' : F3} (C0 : mmC yX7_goesBy cX7_goesBy 4 none p s m args meth c) {k116 : F3 → Int32 → Option F3} (hk116 : ∀ (f : F3) (x2 : Int32), k116 f x2 = some f' → ∀ (H : Heap) (locs : List Loc) (ls : Array Slot), mm_R G mm_NT f (GG f) s H locs → lv_has ls 4 [(0, .ref (ra G 20 0)), (2, .int x2)] → W p G.1 e (mm_rm 7) s m args below meth c H locs 0 0 (MQ below (mm_Q G mm_NT none f' (GG f')) args s 0 0 (mm_A G)) (F0 m 116 ls [])) {f : F3} {s0 : Int32} {x2 : Int32} (h : S_X7_goesBy_147 k116 f s0 x2 = some f') (H : Heap) (locs : List Loc) (ls : Array Slot) (hR : mm_R G mm_NT f (GG f) s H locs) (hl : lv_has ls 4 [(0, .ref (ra G 20 0)), (2, .int x2)]) : W p G.1 e (mm_rm 7) s m args below meth c H locs 0 0 (MQ below (mm_Q G mm_NT none f' (GG f')) args s 0 0 (mm_A G)) (F0 m 147 ls [.int s0]) := by
  obtain ⟨hx, hb, hml, hr, hown, hts, hlocks⟩ := id C0
  rw [S_X7_goesBy_147] at h
  refine lv_istore_n (lv' := [(3, .int s0), (0, .ref (ra G 20 0)), (2, .int x2)]) hx hb dX7_goesBy_147 rfl hl (by decide) rfl (fun ls hl => ?_)
  refine lv_aload_n hx hb dX7_goesBy_148 rfl (lv_at hl 1 rfl) ?_
  refine lv_iload_n hx hb dX7_goesBy_149 rfl (lv_at hl 2 rfl) ?_
  refine lv_iload_n hx hb dX7_goesBy_150 rfl (lv_at hl 0 rfl) ?_
  obtain ⟨r28, f27, ef27, h⟩ := mm_b2e h
  refine mm_callV (v := some (.int r28)) (f1 := f27) (d0 := 5) (rest := []) [.int x2, .int s0] C0 rfl hR 20 0 (T_X7_can G ef27) ws_X7_can lk_191 hd_X7_can ⟨by decide, by decide⟩ vl_20 rfl rfl rfl hl.1 rfl (Nat.le_of_ble_eq_true rfl) dX7_goesBy_151 (fun H locs hR => ?_)
  refine W.eq (g2 := F0 m 154 ls (.int r28 :: [])) rfl ?_
  refine lv_if_eq (tgt := 163) hx hb dX7_goesBy_154 (by decide) (fun c29 => ?_) (fun c29 => ?_)
  · rw [if_pos c29] at h
    exact L_X7_goesBy_163 C0 hk116 h _ _ _ hR (lv_sub hl [1] rfl)
  · rw [if_neg c29] at h
    refine lv_aload_n hx hb dX7_goesBy_157 rfl (lv_at hl 1 rfl) ?_
    refine lv_iload_n hx hb dX7_goesBy_158 rfl (lv_at hl 2 rfl) ?_
    refine lv_iload_n hx hb dX7_goesBy_159 rfl (lv_at hl 0 rfl) ?_
    obtain ⟨f30, ef30, h⟩ := mm_bind h
    refine mm_callV (v := none) (f1 := f30) (d0 := 2) (rest := []) [.int x2, .int s0] C0 rfl hR 20 0 (T_X7_comes G ef30) ws_X7_comes lk_192 hd_X7_comes ⟨by decide, by decide⟩ vl_20 rfl rfl rfl hl.1 rfl (Nat.le_of_ble_eq_true rfl) dX7_goesBy_160 (fun H locs hR => ?_)
    refine W.eq (g2 := F0 m 163 ls ([])) rfl ?_
    exact L_X7_goesBy_163 C0 hk116 h _ _ _ hR (lv_sub hl [1] rfl)
def S_X7_goesBy_116 : Nat → F3 → Int32 → Option F3
  | 0, _, _ => none
  | n + 1, f, x2 => if x2 = (-1) then (mm_let (up f 20 0 1 ((f 20 0 1) + 1)) fun f23 => some f23) else (if okI x2 24 then (mm_let (up f 24 0 x2.toNatClampNeg 1) fun f25 => if (f25 42 0 x2.toNatClampNeg) = 0 then (S_X7_goesBy_147 (fun f9 x2_ => S_X7_goesBy_116 n f9 x2_) f25 0 x2) else (S_X7_goesBy_147 (fun f9 x2_ => S_X7_goesBy_116 n f9 x2_) f25 ((f25 20 0 2) - 1) x2)) else none)
set_option maxHeartbeats 4000000 in
set_option maxRecDepth 100000 in
theorem L_X7_goesBy_116 {G : mmG} {p : Program} {e : Env} {s : State} {m : MethodId} {args : Array Value} {below : List Frame} {meth : Method} {c : Code} {f' : F3} (C0 : mmC yX7_goesBy cX7_goesBy 4 none p s m args meth c) : ∀ (n : Nat) {f : F3} {x2 : Int32} , S_X7_goesBy_116 n f x2 = some f' → ∀ (H : Heap) (locs : List Loc) (ls : Array Slot), mm_R G mm_NT f (GG f) s H locs → lv_has ls 4 [(0, .ref (ra G 20 0)), (2, .int x2)] → W p G.1 e (mm_rm 7) s m args below meth c H locs 0 0 (MQ below (mm_Q G mm_NT none f' (GG f')) args s 0 0 (mm_A G)) (F0 m 116 ls []) := by
  obtain ⟨hx, hb, hml, hr, hown, hts, hlocks⟩ := id C0
  intro n
  induction n with
  | zero =>
    intro f x2  h H locs ls hR hl
    cases h
  | succ n ih =>
    intro f x2  h H locs ls hR hl
    rw [S_X7_goesBy_116] at h
    refine lv_iload_n hx hb dX7_goesBy_116 rfl (lv_at hl 1 rfl) ?_
    refine lv_iconst (v := (-1)) hx hb dX7_goesBy_117 (by decide) ?_
    refine lv_icmp_eq (tgt := 172) hx hb dX7_goesBy_118 (by decide) (fun c22 => ?_) (fun c22 => ?_)
    · rw [if_pos c22] at h
      refine lv_aload_n hx hb dX7_goesBy_172 rfl (lv_at hl 0 rfl) ?_
      refine lv_dup hx hb dX7_goesBy_173 rfl ?_
      refine mm_get hx hb hts hown hR 20 0 1 vl_20 (v := .int (f 20 0 1)) rfl rfl iX7 (by decide) lk_157 rfl dX7_goesBy_174 ?_
      refine lv_iconst (v := 1) hx hb dX7_goesBy_177 (by decide) ?_
      refine lv_iadd hx hb dX7_goesBy_178 ?_
      obtain ⟨f23, ef23, h⟩ := mm_lt h
      refine mm_put hx hb hts hown hR 20 0 1 (by decide) vl_20 (x := (f 20 0 1) + 1) rfl rfl iX7 tyX7 tyX7_ok nmX7 (by decide) lk_157 rfl rfl rfl (Nat.le_of_ble_eq_true rfl) rfl dX7_goesBy_179 (fun H locs hR => ?_)
      rw [← ef23] at hR
      obtain rfl := mm_p1 h
      exact mm_vret C0 hR dX7_goesBy_182
    · rw [if_neg c22] at h
      refine lv_aload_n hx hb dX7_goesBy_121 rfl (lv_at hl 0 rfl) ?_
      refine mm_get hx hb hts hown hR 20 0 23 vl_20 (v := .ref (ra G 24 0)) rfl rfl iX7 (by decide) lk_190 rfl dX7_goesBy_122 ?_
      refine lv_iload_n hx hb dX7_goesBy_125 rfl (lv_at hl 1 rfl) ?_
      refine lv_iconst (v := 1) hx hb dX7_goesBy_126 (by decide) ?_
      obtain ⟨z24, h⟩ := mm_if h
      obtain ⟨f25, ef25, h⟩ := mm_lt h
      refine mm_zst hx hb hR 24 0 (by decide) vl_24 (L := 24) (j := x2) (x := 1) (fun _ => rfl) (okI_in z24) (by decide) dX7_goesBy_127 (fun H locs hR => ?_)
      rw [← ef25] at hR
      refine lv_aload_n hx hb dX7_goesBy_128 rfl (lv_at hl 0 rfl) ?_
      refine mm_get hx hb hts hown hR 20 0 16 vl_20 (v := .ref (ra G 42 0)) rfl rfl iX7 (by decide) lk_169 rfl dX7_goesBy_129 ?_
      refine lv_iload_n hx hb dX7_goesBy_132 rfl (lv_at hl 1 rfl) ?_
      refine mm_ild hx hb hR 42 0 vl_42 (L := 24) rfl (okI_in z24) dX7_goesBy_133 ?_
      refine lv_if_ne (tgt := 141) hx hb dX7_goesBy_134 (by decide) (fun c26 => ?_) (fun c26 => ?_)
      · rw [if_neg c26] at h
        refine lv_aload_n hx hb dX7_goesBy_141 rfl (lv_at hl 0 rfl) ?_
        refine mm_get hx hb hts hown hR 20 0 2 vl_20 (v := .int (f25 20 0 2)) rfl rfl iX7 (by decide) lk_142 rfl dX7_goesBy_142 ?_
        refine lv_iconst (v := 1) hx hb dX7_goesBy_145 (by decide) ?_
        refine lv_isub hx hb dX7_goesBy_146 ?_
        exact L_X7_goesBy_147 C0 (fun _ _ h9 H9 locs9 ls9 hR9 hl9 => ih h9 _ _ _ hR9 hl9) h _ _ _ hR (lv_sub hl [0, 1] rfl)
      · rw [if_pos c26] at h
        refine lv_iconst (v := 0) hx hb dX7_goesBy_137 (by decide) ?_
        refine lv_goto (tgt := 147) hx hb dX7_goesBy_138 (by decide) ?_
        exact L_X7_goesBy_147 C0 (fun _ _ h9 H9 locs9 ls9 hR9 hl9 => ih h9 _ _ _ hR9 hl9) h _ _ _ hR (lv_sub hl [0, 1] rfl)
def S_X7_goesBy_84 : Nat → F3 → Int32 → Option F3
  | 0, _, _ => none
  | n + 1, f, x2 => if x2 = (-1) then (mm_b2 (S_X7_next f 0) fun r12 f11 => S_X7_goesBy_116 FU f11 r12) else (if okI x2 24 then (mm_let (up f 24 0 x2.toNatClampNeg 1) fun f14 => Option.bind (S_X7_goesOn f14 x2) fun f15 => mm_b2 (S_X7_next f15 1) fun r17 f16 => S_X7_goesBy_84 n f16 r17) else none)
set_option maxHeartbeats 4000000 in
set_option maxRecDepth 100000 in
theorem L_X7_goesBy_84 {G : mmG} {p : Program} {e : Env} {s : State} {m : MethodId} {args : Array Value} {below : List Frame} {meth : Method} {c : Code} {f' : F3} (C0 : mmC yX7_goesBy cX7_goesBy 4 none p s m args meth c) : ∀ (n : Nat) {f : F3} {x2 : Int32} , S_X7_goesBy_84 n f x2 = some f' → ∀ (H : Heap) (locs : List Loc) (ls : Array Slot), mm_R G mm_NT f (GG f) s H locs → lv_has ls 4 [(0, .ref (ra G 20 0)), (2, .int x2)] → W p G.1 e (mm_rm 7) s m args below meth c H locs 0 0 (MQ below (mm_Q G mm_NT none f' (GG f')) args s 0 0 (mm_A G)) (F0 m 84 ls []) := by
  obtain ⟨hx, hb, hml, hr, hown, hts, hlocks⟩ := id C0
  intro n
  induction n with
  | zero =>
    intro f x2  h H locs ls hR hl
    cases h
  | succ n ih =>
    intro f x2  h H locs ls hR hl
    rw [S_X7_goesBy_84] at h
    refine lv_iload_n hx hb dX7_goesBy_84 rfl (lv_at hl 1 rfl) ?_
    refine lv_iconst (v := (-1)) hx hb dX7_goesBy_85 (by decide) ?_
    refine lv_icmp_eq (tgt := 110) hx hb dX7_goesBy_86 (by decide) (fun c10 => ?_) (fun c10 => ?_)
    · rw [if_pos c10] at h
      refine lv_aload_n hx hb dX7_goesBy_110 rfl (lv_at hl 0 rfl) ?_
      refine lv_iconst (v := 0) hx hb dX7_goesBy_111 (by decide) ?_
      obtain ⟨r12, f11, ef11, h⟩ := mm_b2e h
      refine mm_callV (v := some (.int r12)) (f1 := f11) (d0 := 0) (rest := []) [.int 0] C0 rfl hR 20 0 (T_X7_next G ef11) ws_X7_next lk_194 hd_X7_next ⟨by decide, by decide⟩ vl_20 rfl rfl rfl hl.1 rfl (Nat.le_of_ble_eq_true rfl) dX7_goesBy_112 (fun H locs hR => ?_)
      refine W.eq (g2 := F0 m 115 ls (.int r12 :: [])) rfl ?_
      refine lv_istore_n (lv' := [(2, .int r12), (0, .ref (ra G 20 0))]) hx hb dX7_goesBy_115 rfl hl (by decide) rfl (fun ls hl => ?_)
      exact L_X7_goesBy_116 C0 _ h _ _ _ hR (lv_sub hl [1, 0] rfl)
    · rw [if_neg c10] at h
      refine lv_aload_n hx hb dX7_goesBy_89 rfl (lv_at hl 0 rfl) ?_
      refine mm_get hx hb hts hown hR 20 0 23 vl_20 (v := .ref (ra G 24 0)) rfl rfl iX7 (by decide) lk_190 rfl dX7_goesBy_90 ?_
      refine lv_iload_n hx hb dX7_goesBy_93 rfl (lv_at hl 1 rfl) ?_
      refine lv_iconst (v := 1) hx hb dX7_goesBy_94 (by decide) ?_
      obtain ⟨z13, h⟩ := mm_if h
      obtain ⟨f14, ef14, h⟩ := mm_lt h
      refine mm_zst hx hb hR 24 0 (by decide) vl_24 (L := 24) (j := x2) (x := 1) (fun _ => rfl) (okI_in z13) (by decide) dX7_goesBy_95 (fun H locs hR => ?_)
      rw [← ef14] at hR
      refine lv_aload_n hx hb dX7_goesBy_96 rfl (lv_at hl 0 rfl) ?_
      refine lv_iload_n hx hb dX7_goesBy_97 rfl (lv_at hl 1 rfl) ?_
      obtain ⟨f15, ef15, h⟩ := mm_bind h
      refine mm_callV (v := none) (f1 := f15) (d0 := 6) (rest := []) [.int x2] C0 rfl hR 20 0 (T_X7_goesOn G ef15) ws_X7_goesOn lk_195 hd_X7_goesOn ⟨by decide, by decide⟩ vl_20 rfl rfl rfl hl.1 rfl (Nat.le_of_ble_eq_true rfl) dX7_goesBy_98 (fun H locs hR => ?_)
      refine W.eq (g2 := F0 m 101 ls ([])) rfl ?_
      refine lv_aload_n hx hb dX7_goesBy_101 rfl (lv_at hl 0 rfl) ?_
      refine lv_iconst (v := 1) hx hb dX7_goesBy_102 (by decide) ?_
      obtain ⟨r17, f16, ef16, h⟩ := mm_b2e h
      refine mm_callV (v := some (.int r17)) (f1 := f16) (d0 := 0) (rest := []) [.int 1] C0 rfl hR 20 0 (T_X7_next G ef16) ws_X7_next lk_194 hd_X7_next ⟨by decide, by decide⟩ vl_20 rfl rfl rfl hl.1 rfl (Nat.le_of_ble_eq_true rfl) dX7_goesBy_103 (fun H locs hR => ?_)
      refine W.eq (g2 := F0 m 106 ls (.int r17 :: [])) rfl ?_
      refine lv_istore_n (lv' := [(2, .int r17), (0, .ref (ra G 20 0))]) hx hb dX7_goesBy_106 rfl hl (by decide) rfl (fun ls hl => ?_)
      refine lv_goto (tgt := 84) hx hb dX7_goesBy_107 (by decide) ?_
      exact ih  h _ _ _ hR (lv_sub hl [1, 0] rfl)
def S_X7_goesBy_63 (k33 : F3 → Int32 → Option F3) (f : F3) (s1 : Int32) (s2 : Int32) (s3 : Int32) (x2 : Int32) : Option F3 := if okI s1 24 then (mm_let (up f 45 0 s1.toNatClampNeg (s2 + s3)) fun f19 => if okI x2 24 then (mm_let (up f19 24 0 x2.toNatClampNeg 0) fun f21 => k33 f21 (x2 + 1)) else none) else none
set_option maxHeartbeats 4000000 in
set_option maxRecDepth 100000 in
theorem L_X7_goesBy_63 {G : mmG} {p : Program} {e : Env} {s : State} {m : MethodId} {args : Array Value} {below : List Frame} {meth : Method} {c : Code} {f' : F3} (C0 : mmC yX7_goesBy cX7_goesBy 4 none p s m args meth c) {k33 : F3 → Int32 → Option F3} (hk33 : ∀ (f : F3) (x2 : Int32), k33 f x2 = some f' → ∀ (H : Heap) (locs : List Loc) (ls : Array Slot), mm_R G mm_NT f (GG f) s H locs → lv_has ls 4 [(0, .ref (ra G 20 0)), (2, .int x2)] → W p G.1 e (mm_rm 7) s m args below meth c H locs 0 0 (MQ below (mm_Q G mm_NT none f' (GG f')) args s 0 0 (mm_A G)) (F0 m 33 ls [])) {f : F3} {s1 : Int32} {s2 : Int32} {s3 : Int32} {x2 : Int32} (h : S_X7_goesBy_63 k33 f s1 s2 s3 x2 = some f') (H : Heap) (locs : List Loc) (ls : Array Slot) (hR : mm_R G mm_NT f (GG f) s H locs) (hl : lv_has ls 4 [(0, .ref (ra G 20 0)), (2, .int x2)]) : W p G.1 e (mm_rm 7) s m args below meth c H locs 0 0 (MQ below (mm_Q G mm_NT none f' (GG f')) args s 0 0 (mm_A G)) (F0 m 63 ls [.int s3, .int s2, .int s1, .ref (ra G 45 0)]) := by
  obtain ⟨hx, hb, hml, hr, hown, hts, hlocks⟩ := id C0
  rw [S_X7_goesBy_63] at h
  refine lv_iadd hx hb dX7_goesBy_63 ?_
  obtain ⟨z18, h⟩ := mm_if h
  obtain ⟨f19, ef19, h⟩ := mm_lt h
  refine mm_ist hx hb hR 45 0 (by decide) vl_45 (L := 24) (j := s1) (x := s2 + s3) (fun _ => rfl) (okI_in z18) dX7_goesBy_64 (fun H locs hR => ?_)
  rw [← ef19] at hR
  refine lv_aload_n hx hb dX7_goesBy_65 rfl (lv_at hl 0 rfl) ?_
  refine mm_get hx hb hts hown hR 20 0 23 vl_20 (v := .ref (ra G 24 0)) rfl rfl iX7 (by decide) lk_190 rfl dX7_goesBy_66 ?_
  refine lv_iload_n hx hb dX7_goesBy_69 rfl (lv_at hl 1 rfl) ?_
  refine lv_iconst (v := 0) hx hb dX7_goesBy_70 (by decide) ?_
  obtain ⟨z20, h⟩ := mm_if h
  obtain ⟨f21, ef21, h⟩ := mm_lt h
  refine mm_zst hx hb hR 24 0 (by decide) vl_24 (L := 24) (j := x2) (x := 0) (fun _ => rfl) (okI_in z20) (by decide) dX7_goesBy_71 (fun H locs hR => ?_)
  rw [← ef21] at hR
  refine lv_iinc (v := x2 + 1) (lv' := [(2, .int (x2 + 1)), (0, .ref (ra G 20 0))]) hx hb dX7_goesBy_72 hl (k := 1) rfl rfl (by decide) rfl (fun ls hl => ?_)
  refine lv_goto (tgt := 33) hx hb dX7_goesBy_75 (by decide) ?_
  exact hk33 _ (x2 + 1)  h _ _ _ hR (lv_sub hl [1, 0] rfl)
def S_X7_goesBy_33 : Nat → F3 → Int32 → Option F3
  | 0, _, _ => none
  | n + 1, f, x2 => if (f 20 0 13) ≤ x2 then (mm_b2 (S_X7_next f 1) fun r7 f6 => S_X7_goesBy_84 FU f6 r7) else (if okI x2 24 then (if (f 43 0 x2.toNatClampNeg) = 1 then (S_X7_goesBy_63 (fun f9 x2_ => S_X7_goesBy_33 n f9 x2_) f x2 (f 45 0 x2.toNatClampNeg) 1 x2) else (S_X7_goesBy_63 (fun f9 x2_ => S_X7_goesBy_33 n f9 x2_) f x2 (f 45 0 x2.toNatClampNeg) 0 x2)) else none)
set_option maxHeartbeats 4000000 in
set_option maxRecDepth 100000 in
theorem L_X7_goesBy_33 {G : mmG} {p : Program} {e : Env} {s : State} {m : MethodId} {args : Array Value} {below : List Frame} {meth : Method} {c : Code} {f' : F3} (C0 : mmC yX7_goesBy cX7_goesBy 4 none p s m args meth c) : ∀ (n : Nat) {f : F3} {x2 : Int32} , S_X7_goesBy_33 n f x2 = some f' → ∀ (H : Heap) (locs : List Loc) (ls : Array Slot), mm_R G mm_NT f (GG f) s H locs → lv_has ls 4 [(0, .ref (ra G 20 0)), (2, .int x2)] → W p G.1 e (mm_rm 7) s m args below meth c H locs 0 0 (MQ below (mm_Q G mm_NT none f' (GG f')) args s 0 0 (mm_A G)) (F0 m 33 ls []) := by
  obtain ⟨hx, hb, hml, hr, hown, hts, hlocks⟩ := id C0
  intro n
  induction n with
  | zero =>
    intro f x2  h H locs ls hR hl
    cases h
  | succ n ih =>
    intro f x2  h H locs ls hR hl
    rw [S_X7_goesBy_33] at h
    refine lv_iload_n hx hb dX7_goesBy_33 rfl (lv_at hl 1 rfl) ?_
    refine lv_aload_n hx hb dX7_goesBy_34 rfl (lv_at hl 0 rfl) ?_
    refine mm_get hx hb hts hown hR 20 0 13 vl_20 (v := .int (f 20 0 13)) rfl rfl iX7 (by decide) lk_149 rfl dX7_goesBy_35 ?_
    refine lv_icmp_ge (tgt := 78) hx hb dX7_goesBy_38 (by decide) (fun c5 => ?_) (fun c5 => ?_)
    · rw [if_pos c5] at h
      refine lv_aload_n hx hb dX7_goesBy_78 rfl (lv_at hl 0 rfl) ?_
      refine lv_iconst (v := 1) hx hb dX7_goesBy_79 (by decide) ?_
      obtain ⟨r7, f6, ef6, h⟩ := mm_b2e h
      refine mm_callV (v := some (.int r7)) (f1 := f6) (d0 := 0) (rest := []) [.int 1] C0 rfl hR 20 0 (T_X7_next G ef6) ws_X7_next lk_194 hd_X7_next ⟨by decide, by decide⟩ vl_20 rfl rfl rfl hl.1 rfl (Nat.le_of_ble_eq_true rfl) dX7_goesBy_80 (fun H locs hR => ?_)
      refine W.eq (g2 := F0 m 83 ls (.int r7 :: [])) rfl ?_
      refine lv_istore_n (lv' := [(2, .int r7), (0, .ref (ra G 20 0))]) hx hb dX7_goesBy_83 rfl hl (by decide) rfl (fun ls hl => ?_)
      exact L_X7_goesBy_84 C0 _ h _ _ _ hR (lv_sub hl [1, 0] rfl)
    · rw [if_neg c5] at h
      refine lv_aload_n hx hb dX7_goesBy_41 rfl (lv_at hl 0 rfl) ?_
      refine mm_get hx hb hts hown hR 20 0 19 vl_20 (v := .ref (ra G 45 0)) rfl rfl iX7 (by decide) lk_176 rfl dX7_goesBy_42 ?_
      refine lv_iload_n hx hb dX7_goesBy_45 rfl (lv_at hl 1 rfl) ?_
      refine lv_dup2_11 hx hb dX7_goesBy_46 rfl rfl ?_
      obtain ⟨z8, h⟩ := mm_if h
      refine mm_ild hx hb hR 45 0 vl_45 (L := 24) rfl (okI_in z8) dX7_goesBy_47 ?_
      refine lv_aload_n hx hb dX7_goesBy_48 rfl (lv_at hl 0 rfl) ?_
      refine mm_get hx hb hts hown hR 20 0 17 vl_20 (v := .ref (ra G 43 0)) rfl rfl iX7 (by decide) lk_150 rfl dX7_goesBy_49 ?_
      refine lv_iload_n hx hb dX7_goesBy_52 rfl (lv_at hl 1 rfl) ?_
      refine mm_ild hx hb hR 43 0 vl_43 (L := 24) rfl (okI_in z8) dX7_goesBy_53 ?_
      refine lv_iconst (v := 1) hx hb dX7_goesBy_54 (by decide) ?_
      refine lv_icmp_ne (tgt := 62) hx hb dX7_goesBy_55 (by decide) (fun c9 => ?_) (fun c9 => ?_)
      · rw [if_neg c9] at h
        refine lv_iconst (v := 0) hx hb dX7_goesBy_62 (by decide) ?_
        exact L_X7_goesBy_63 C0 (fun _ _ h9 H9 locs9 ls9 hR9 hl9 => ih h9 _ _ _ hR9 hl9) h _ _ _ hR (lv_sub hl [0, 1] rfl)
      · rw [if_pos c9] at h
        refine lv_iconst (v := 1) hx hb dX7_goesBy_58 (by decide) ?_
        refine lv_goto (tgt := 63) hx hb dX7_goesBy_59 (by decide) ?_
        exact L_X7_goesBy_63 C0 (fun _ _ h9 H9 locs9 ls9 hR9 hl9 => ih h9 _ _ _ hR9 hl9) h _ _ _ hR (lv_sub hl [0, 1] rfl)
def S_X7_goesBy_11 : Nat → F3 → Int32 → Int32 → Option F3
  | 0, _, _, _ => none
  | n + 1, f, x1, x2 => if (f 20 0 2) ≤ x2 then (S_X7_goesBy_33 FU f 0) else (Option.bind (S_X7_grows f x2 x1) fun f4 => S_X7_goesBy_11 n f4 x1 (x2 + 1))
set_option maxHeartbeats 4000000 in
set_option maxRecDepth 100000 in
theorem L_X7_goesBy_11 {G : mmG} {p : Program} {e : Env} {s : State} {m : MethodId} {args : Array Value} {below : List Frame} {meth : Method} {c : Code} {f' : F3} (C0 : mmC yX7_goesBy cX7_goesBy 4 none p s m args meth c) : ∀ (n : Nat) {f : F3} {x1 : Int32} {x2 : Int32} , S_X7_goesBy_11 n f x1 x2 = some f' → ∀ (H : Heap) (locs : List Loc) (ls : Array Slot), mm_R G mm_NT f (GG f) s H locs → lv_has ls 4 [(0, .ref (ra G 20 0)), (1, .int x1), (2, .int x2)] → W p G.1 e (mm_rm 7) s m args below meth c H locs 0 0 (MQ below (mm_Q G mm_NT none f' (GG f')) args s 0 0 (mm_A G)) (F0 m 11 ls []) := by
  obtain ⟨hx, hb, hml, hr, hown, hts, hlocks⟩ := id C0
  intro n
  induction n with
  | zero =>
    intro f x1 x2  h H locs ls hR hl
    cases h
  | succ n ih =>
    intro f x1 x2  h H locs ls hR hl
    rw [S_X7_goesBy_11] at h
    refine lv_iload_n hx hb dX7_goesBy_11 rfl (lv_at hl 2 rfl) ?_
    refine lv_aload_n hx hb dX7_goesBy_12 rfl (lv_at hl 0 rfl) ?_
    refine mm_get hx hb hts hown hR 20 0 2 vl_20 (v := .int (f 20 0 2)) rfl rfl iX7 (by decide) lk_142 rfl dX7_goesBy_13 ?_
    refine lv_icmp_ge (tgt := 31) hx hb dX7_goesBy_16 (by decide) (fun c3 => ?_) (fun c3 => ?_)
    · rw [if_pos c3] at h
      refine lv_iconst (v := 0) hx hb dX7_goesBy_31 (by decide) ?_
      refine lv_istore_n (lv' := [(2, .int 0), (0, .ref (ra G 20 0)), (1, .int x1)]) hx hb dX7_goesBy_32 rfl hl (by decide) rfl (fun ls hl => ?_)
      exact L_X7_goesBy_33 C0 _ h _ _ _ hR (lv_sub hl [1, 0] rfl)
    · rw [if_neg c3] at h
      refine lv_aload_n hx hb dX7_goesBy_19 rfl (lv_at hl 0 rfl) ?_
      refine lv_iload_n hx hb dX7_goesBy_20 rfl (lv_at hl 2 rfl) ?_
      refine lv_iload_n hx hb dX7_goesBy_21 rfl (lv_at hl 1 rfl) ?_
      obtain ⟨f4, ef4, h⟩ := mm_bind h
      refine mm_callV (v := none) (f1 := f4) (d0 := 1) (rest := []) [.int x2, .int x1] C0 rfl hR 20 0 (T_X7_grows G ef4) ws_X7_grows lk_193 hd_X7_grows ⟨by decide, by decide⟩ vl_20 rfl rfl rfl hl.1 rfl (Nat.le_of_ble_eq_true rfl) dX7_goesBy_22 (fun H locs hR => ?_)
      refine W.eq (g2 := F0 m 25 ls ([])) rfl ?_
      refine lv_iinc (v := x2 + 1) (lv' := [(2, .int (x2 + 1)), (0, .ref (ra G 20 0)), (1, .int x1)]) hx hb dX7_goesBy_25 hl (k := 2) rfl rfl (by decide) rfl (fun ls hl => ?_)
      refine lv_goto (tgt := 11) hx hb dX7_goesBy_28 (by decide) ?_
      exact ih  h _ _ _ hR (lv_sub hl [1, 2, 0] rfl)
def S_X7_goesBy (f : F3)  : Option F3 := mm_b2 (S_X7_heatOf f (f 20 0 1)) fun r2 f1 => S_X7_goesBy_11 FU f1 r2 0
set_option maxHeartbeats 4000000 in
set_option maxRecDepth 100000 in
theorem T_X7_goesBy (G : mmG) {f f' : F3} (h : S_X7_goesBy f = some f') : mmM G yX7_goesBy cX7_goesBy 4 none 7 [.ref (ra G 20 0)] f none f' := by
  refine mm_start (by decide +kernel) (Nat.le_of_ble_eq_true rfl) ?_
  intro p e s m args below meth c ls C0 hR hl
  obtain ⟨hx, hb, hml, hr, hown, hts, hlocks⟩ := id C0
  have hl : lv_has ls 4 [(0, .ref (ra G 20 0))] := hl
  rw [S_X7_goesBy] at h
  refine lv_aload_n hx hb dX7_goesBy_0 rfl (lv_at hl 0 rfl) ?_
  refine lv_aload_n hx hb dX7_goesBy_1 rfl (lv_at hl 0 rfl) ?_
  refine mm_get hx hb hts hown hR 20 0 1 vl_20 (v := .int (f 20 0 1)) rfl rfl iX7 (by decide) lk_157 rfl dX7_goesBy_2 ?_
  obtain ⟨r2, f1, ef1, h⟩ := mm_b2e h
  refine mm_callV (v := some (.int r2)) (f1 := f1) (d0 := 0) (rest := []) [.int (f 20 0 1)] C0 rfl hR 20 0 (T_X7_heatOf G ef1) ws_X7_heatOf lk_158 hd_X7_heatOf ⟨by decide, by decide⟩ vl_20 rfl rfl rfl hl.1 rfl (Nat.le_of_ble_eq_true rfl) dX7_goesBy_5 (fun H locs hR => ?_)
  refine W.eq (g2 := F0 m 8 ls (.int r2 :: [])) rfl ?_
  refine lv_istore_n (lv' := [(1, .int r2), (0, .ref (ra G 20 0))]) hx hb dX7_goesBy_8 rfl hl (by decide) rfl (fun ls hl => ?_)
  refine lv_iconst (v := 0) hx hb dX7_goesBy_9 (by decide) ?_
  refine lv_istore_n (lv' := [(2, .int 0), (1, .int r2), (0, .ref (ra G 20 0))]) hx hb dX7_goesBy_10 rfl hl (by decide) rfl (fun ls hl => ?_)
  exact L_X7_goesBy_11 C0 _ h _ _ _ hR (lv_sub hl [2, 1, 0] rfl)
def S_X7_nought (f : F3) (x1 : Int32) : Option (Int32 × F3) := if okI (-x1) 9 then (mm_let (up f 21 0 (-x1).toNatClampNeg ((f 21 0 (-x1).toNatClampNeg) + 1)) fun f2 => some (0, f2)) else none
set_option maxHeartbeats 4000000 in
set_option maxRecDepth 100000 in
theorem T_X7_nought (G : mmG) {f f' : F3} {rv : Int32} {x1 : Int32} (h : S_X7_nought f x1 = some (rv, f')) : mmM G yX7_nought cX7_nought 2 (some .int) 0 [.ref (ra G 20 0), .int x1] f (some (.int rv)) f' := by
  refine mm_start (by decide +kernel) (Nat.le_of_ble_eq_true rfl) ?_
  intro p e s m args below meth c ls C0 hR hl
  obtain ⟨hx, hb, hml, hr, hown, hts, hlocks⟩ := id C0
  have hl : lv_has ls 2 [(0, .ref (ra G 20 0)), (1, .int x1)] := hl
  rw [S_X7_nought] at h
  refine lv_aload_n hx hb dX7_nought_0 rfl (lv_at hl 0 rfl) ?_
  refine mm_get hx hb hts hown hR 20 0 0 vl_20 (v := .ref (ra G 21 0)) rfl rfl iX7 (by decide) lk_145 rfl dX7_nought_1 ?_
  refine lv_iload_n hx hb dX7_nought_4 rfl (lv_at hl 1 rfl) ?_
  refine lv_ineg hx hb dX7_nought_5 ?_
  refine lv_dup2_11 hx hb dX7_nought_6 rfl rfl ?_
  obtain ⟨z1, h⟩ := mm_if h
  refine mm_ild hx hb hR 21 0 vl_21 (L := 9) rfl (okI_in z1) dX7_nought_7 ?_
  refine lv_iconst (v := 1) hx hb dX7_nought_8 (by decide) ?_
  refine lv_iadd hx hb dX7_nought_9 ?_
  obtain ⟨f2, ef2, h⟩ := mm_lt h
  refine mm_ist hx hb hR 21 0 (by decide) vl_21 (L := 9) (j := -x1) (x := (f 21 0 (-x1).toNatClampNeg) + 1) (fun _ => rfl) (okI_in z1) dX7_nought_10 (fun H locs hR => ?_)
  rw [← ef2] at hR
  refine lv_iconst (v := 0) hx hb dX7_nought_11 (by decide) ?_
  obtain ⟨rfl, rfl⟩ := mm_pr h
  exact mm_iret C0 hR dX7_nought_12
def S_X7_heat (f : F3) (x1 : Int32) : Option (Int32 × F3) := if 0 ≤ x1 then (mm_b2 (S_X7_heatOf f x1) fun r3 f2 => some (r3, f2)) else (mm_b2 (S_X7_nought f (-3)) fun r5 f4 => some (r5, f4))
set_option maxHeartbeats 4000000 in
set_option maxRecDepth 100000 in
theorem T_X7_heat (G : mmG) {f f' : F3} {rv : Int32} {x1 : Int32} (h : S_X7_heat f x1 = some (rv, f')) : mmM G yX7_heat cX7_heat 2 (some .int) 1 [.ref (ra G 20 0), .int x1] f (some (.int rv)) f' := by
  refine mm_start (by decide +kernel) (Nat.le_of_ble_eq_true rfl) ?_
  intro p e s m args below meth c ls C0 hR hl
  obtain ⟨hx, hb, hml, hr, hown, hts, hlocks⟩ := id C0
  have hl : lv_has ls 2 [(0, .ref (ra G 20 0)), (1, .int x1)] := hl
  rw [S_X7_heat] at h
  refine lv_iload_n hx hb dX7_heat_0 rfl (lv_at hl 1 rfl) ?_
  refine lv_if_ge (tgt := 13) hx hb dX7_heat_1 (by decide) (fun c1 => ?_) (fun c1 => ?_)
  · rw [if_pos c1] at h
    refine lv_aload_n hx hb dX7_heat_13 rfl (lv_at hl 0 rfl) ?_
    refine lv_iload_n hx hb dX7_heat_14 rfl (lv_at hl 1 rfl) ?_
    obtain ⟨r3, f2, ef2, h⟩ := mm_b2e h
    refine mm_callV (v := some (.int r3)) (f1 := f2) (d0 := 0) (rest := []) [.int x1] C0 rfl hR 20 0 (T_X7_heatOf G ef2) ws_X7_heatOf lk_158 hd_X7_heatOf ⟨by decide, by decide⟩ vl_20 rfl rfl rfl hl.1 rfl (Nat.le_of_ble_eq_true rfl) dX7_heat_15 (fun H locs hR => ?_)
    refine W.eq (g2 := F0 m 18 ls (.int r3 :: [])) rfl ?_
    obtain ⟨rfl, rfl⟩ := mm_pr h
    exact mm_iret C0 hR dX7_heat_18
  · rw [if_neg c1] at h
    refine lv_aload_n hx hb dX7_heat_4 rfl (lv_at hl 0 rfl) ?_
    refine lv_bipush (v := (-3)) hx hb dX7_heat_5 (by decide) ?_
    obtain ⟨r5, f4, ef4, h⟩ := mm_b2e h
    refine mm_callV (v := some (.int r5)) (f1 := f4) (d0 := 0) (rest := []) [.int (-3)] C0 rfl hR 20 0 (T_X7_nought G ef4) ws_X7_nought lk_196 hd_X7_nought ⟨by decide, by decide⟩ vl_20 rfl rfl rfl hl.1 rfl (Nat.le_of_ble_eq_true rfl) dX7_heat_7 (fun H locs hR => ?_)
    refine W.eq (g2 := F0 m 10 ls (.int r5 :: [])) rfl ?_
    refine lv_goto (tgt := 18) hx hb dX7_heat_10 (by decide) ?_
    obtain ⟨rfl, rfl⟩ := mm_pr h
    exact mm_iret C0 hR dX7_heat_18
def S_X7_isLoad (f : F3) (x1 : Int32) : Option (Int32 × F3) := mm_b2 (S_X7_in f x1 0 ((f 20 0 13) - 1)) fun r2 f1 => if okB r2 then (some (r2, f1)) else none
set_option maxHeartbeats 4000000 in
set_option maxRecDepth 100000 in
theorem T_X7_isLoad (G : mmG) {f f' : F3} {rv : Int32} {x1 : Int32} (h : S_X7_isLoad f x1 = some (rv, f')) : mmM G yX7_isLoad cX7_isLoad 2 (some .boolean) 1 [.ref (ra G 20 0), .int x1] f (some (.int rv)) f' := by
  refine mm_start (by decide +kernel) (Nat.le_of_ble_eq_true rfl) ?_
  intro p e s m args below meth c ls C0 hR hl
  obtain ⟨hx, hb, hml, hr, hown, hts, hlocks⟩ := id C0
  have hl : lv_has ls 2 [(0, .ref (ra G 20 0)), (1, .int x1)] := hl
  rw [S_X7_isLoad] at h
  refine lv_iload_n hx hb dX7_isLoad_0 rfl (lv_at hl 1 rfl) ?_
  refine lv_iconst (v := 0) hx hb dX7_isLoad_1 (by decide) ?_
  refine lv_aload_n hx hb dX7_isLoad_2 rfl (lv_at hl 0 rfl) ?_
  refine mm_get hx hb hts hown hR 20 0 13 vl_20 (v := .int (f 20 0 13)) rfl rfl iX7 (by decide) lk_149 rfl dX7_isLoad_3 ?_
  refine lv_iconst (v := 1) hx hb dX7_isLoad_6 (by decide) ?_
  refine lv_isub hx hb dX7_isLoad_7 ?_
  obtain ⟨r2, f1, ef1, h⟩ := mm_b2e h
  refine mm_callS (v := some (.int r2)) (f1 := f1) (d0 := 0) (rest := []) [.int x1, .int 0, .int ((f 20 0 13) - 1)] C0 rfl hR (T_X7_in G ef1) ws_X7_in lk_144 hd_X7_in ⟨by decide, by decide⟩ hl.1 rfl (Nat.le_of_ble_eq_true rfl) dX7_isLoad_8 (fun H locs hR => ?_)
  refine W.eq (g2 := F0 m 11 ls (.int r2 :: [])) rfl ?_
  obtain ⟨z3, h⟩ := mm_if h
  obtain ⟨rfl, rfl⟩ := mm_pr h
  exact mm_zret C0 (okB_n z3) hR dX7_isLoad_11
def S_X7_key (f : F3)  : Option (Int32 × F3) := mm_b2 (S_X7_here f) fun r2 f1 => if r2 = 116 then (Option.bind (S_X7_eats3 f1 116 104 105) fun f8 => Option.bind (S_X7_eats f8 99) fun f9 => Option.bind (S_X7_eats f9 107) fun f10 => some (0, f10)) else (if r2 = 103 then (Option.bind (S_X7_eats3 f1 103 97 112) fun f7 => some (1, f7)) else (Option.bind (S_X7_eats3 f1 115 116 111) fun f5 => Option.bind (S_X7_eats f5 112) fun f6 => some (2, f6)))
set_option maxHeartbeats 4000000 in
set_option maxRecDepth 100000 in
theorem T_X7_key (G : mmG) {f f' : F3} {rv : Int32} (h : S_X7_key f = some (rv, f')) : mmM G yX7_key cX7_key 2 (some .int) 3 [.ref (ra G 20 0)] f (some (.int rv)) f' := by
  refine mm_start (by decide +kernel) (Nat.le_of_ble_eq_true rfl) ?_
  intro p e s m args below meth c ls C0 hR hl
  obtain ⟨hx, hb, hml, hr, hown, hts, hlocks⟩ := id C0
  have hl : lv_has ls 2 [(0, .ref (ra G 20 0))] := hl
  rw [S_X7_key] at h
  refine lv_aload_n hx hb dX7_key_0 rfl (lv_at hl 0 rfl) ?_
  obtain ⟨r2, f1, ef1, h⟩ := mm_b2e h
  refine mm_callV (v := some (.int r2)) (f1 := f1) (d0 := 0) (rest := []) [] C0 rfl hR 20 0 (T_X7_here G ef1) ws_X7_here lk_187 hd_X7_here ⟨by decide, by decide⟩ vl_20 rfl rfl rfl hl.1 rfl (Nat.le_of_ble_eq_true rfl) dX7_key_1 (fun H locs hR => ?_)
  refine W.eq (g2 := F0 m 4 ls (.int r2 :: [])) rfl ?_
  refine lv_istore_n (lv' := [(1, .int r2), (0, .ref (ra G 20 0))]) hx hb dX7_key_4 rfl hl (by decide) rfl (fun ls hl => ?_)
  refine lv_iload_n hx hb dX7_key_5 rfl (lv_at hl 0 rfl) ?_
  refine lv_bipush (v := 116) hx hb dX7_key_6 (by decide) ?_
  refine lv_icmp_ne (tgt := 35) hx hb dX7_key_8 (by decide) (fun c3 => ?_) (fun c3 => ?_)
  · rw [if_neg c3] at h
    refine lv_iload_n hx hb dX7_key_35 rfl (lv_at hl 0 rfl) ?_
    refine lv_bipush (v := 103) hx hb dX7_key_36 (by decide) ?_
    refine lv_icmp_ne (tgt := 53) hx hb dX7_key_38 (by decide) (fun c4 => ?_) (fun c4 => ?_)
    · rw [if_neg c4] at h
      refine lv_aload_n hx hb dX7_key_53 rfl (lv_at hl 1 rfl) ?_
      refine lv_bipush (v := 115) hx hb dX7_key_54 (by decide) ?_
      refine lv_bipush (v := 116) hx hb dX7_key_56 (by decide) ?_
      refine lv_bipush (v := 111) hx hb dX7_key_58 (by decide) ?_
      obtain ⟨f5, ef5, h⟩ := mm_bind h
      refine mm_callV (v := none) (f1 := f5) (d0 := 2) (rest := []) [.int 115, .int 116, .int 111] C0 rfl hR 20 0 (T_X7_eats3 G ef5) ws_X7_eats3 lk_189 hd_X7_eats3 ⟨by decide, by decide⟩ vl_20 rfl rfl rfl hl.1 rfl (Nat.le_of_ble_eq_true rfl) dX7_key_60 (fun H locs hR => ?_)
      refine W.eq (g2 := F0 m 63 ls ([])) rfl ?_
      refine lv_aload_n hx hb dX7_key_63 rfl (lv_at hl 1 rfl) ?_
      refine lv_bipush (v := 112) hx hb dX7_key_64 (by decide) ?_
      obtain ⟨f6, ef6, h⟩ := mm_bind h
      refine mm_callV (v := none) (f1 := f6) (d0 := 1) (rest := []) [.int 112] C0 rfl hR 20 0 (T_X7_eats G ef6) ws_X7_eats lk_188 hd_X7_eats ⟨by decide, by decide⟩ vl_20 rfl rfl rfl hl.1 rfl (Nat.le_of_ble_eq_true rfl) dX7_key_66 (fun H locs hR => ?_)
      refine W.eq (g2 := F0 m 69 ls ([])) rfl ?_
      refine lv_iconst (v := 2) hx hb dX7_key_69 (by decide) ?_
      obtain ⟨rfl, rfl⟩ := mm_pr h
      exact mm_iret C0 hR dX7_key_70
    · rw [if_pos c4] at h
      refine lv_aload_n hx hb dX7_key_41 rfl (lv_at hl 1 rfl) ?_
      refine lv_bipush (v := 103) hx hb dX7_key_42 (by decide) ?_
      refine lv_bipush (v := 97) hx hb dX7_key_44 (by decide) ?_
      refine lv_bipush (v := 112) hx hb dX7_key_46 (by decide) ?_
      obtain ⟨f7, ef7, h⟩ := mm_bind h
      refine mm_callV (v := none) (f1 := f7) (d0 := 2) (rest := []) [.int 103, .int 97, .int 112] C0 rfl hR 20 0 (T_X7_eats3 G ef7) ws_X7_eats3 lk_189 hd_X7_eats3 ⟨by decide, by decide⟩ vl_20 rfl rfl rfl hl.1 rfl (Nat.le_of_ble_eq_true rfl) dX7_key_48 (fun H locs hR => ?_)
      refine W.eq (g2 := F0 m 51 ls ([])) rfl ?_
      refine lv_iconst (v := 1) hx hb dX7_key_51 (by decide) ?_
      obtain ⟨rfl, rfl⟩ := mm_pr h
      exact mm_iret C0 hR dX7_key_52
  · rw [if_pos c3] at h
    refine lv_aload_n hx hb dX7_key_11 rfl (lv_at hl 1 rfl) ?_
    refine lv_bipush (v := 116) hx hb dX7_key_12 (by decide) ?_
    refine lv_bipush (v := 104) hx hb dX7_key_14 (by decide) ?_
    refine lv_bipush (v := 105) hx hb dX7_key_16 (by decide) ?_
    obtain ⟨f8, ef8, h⟩ := mm_bind h
    refine mm_callV (v := none) (f1 := f8) (d0 := 2) (rest := []) [.int 116, .int 104, .int 105] C0 rfl hR 20 0 (T_X7_eats3 G ef8) ws_X7_eats3 lk_189 hd_X7_eats3 ⟨by decide, by decide⟩ vl_20 rfl rfl rfl hl.1 rfl (Nat.le_of_ble_eq_true rfl) dX7_key_18 (fun H locs hR => ?_)
    refine W.eq (g2 := F0 m 21 ls ([])) rfl ?_
    refine lv_aload_n hx hb dX7_key_21 rfl (lv_at hl 1 rfl) ?_
    refine lv_bipush (v := 99) hx hb dX7_key_22 (by decide) ?_
    obtain ⟨f9, ef9, h⟩ := mm_bind h
    refine mm_callV (v := none) (f1 := f9) (d0 := 1) (rest := []) [.int 99] C0 rfl hR 20 0 (T_X7_eats G ef9) ws_X7_eats lk_188 hd_X7_eats ⟨by decide, by decide⟩ vl_20 rfl rfl rfl hl.1 rfl (Nat.le_of_ble_eq_true rfl) dX7_key_24 (fun H locs hR => ?_)
    refine W.eq (g2 := F0 m 27 ls ([])) rfl ?_
    refine lv_aload_n hx hb dX7_key_27 rfl (lv_at hl 1 rfl) ?_
    refine lv_bipush (v := 107) hx hb dX7_key_28 (by decide) ?_
    obtain ⟨f10, ef10, h⟩ := mm_bind h
    refine mm_callV (v := none) (f1 := f10) (d0 := 1) (rest := []) [.int 107] C0 rfl hR 20 0 (T_X7_eats G ef10) ws_X7_eats lk_188 hd_X7_eats ⟨by decide, by decide⟩ vl_20 rfl rfl rfl hl.1 rfl (Nat.le_of_ble_eq_true rfl) dX7_key_30 (fun H locs hR => ?_)
    refine W.eq (g2 := F0 m 33 ls ([])) rfl ?_
    refine lv_iconst (v := 0) hx hb dX7_key_33 (by decide) ?_
    obtain ⟨rfl, rfl⟩ := mm_pr h
    exact mm_iret C0 hR dX7_key_34
def S_X7_load_29 (f : F3)  : Option (Int32 × F3) := mm_b2 (S_X7_refuse f (-7)) fun r25 f24 => some (r25, f24)
set_option maxHeartbeats 4000000 in
set_option maxRecDepth 100000 in
theorem L_X7_load_29 {G : mmG} {p : Program} {e : Env} {s : State} {m : MethodId} {args : Array Value} {below : List Frame} {meth : Method} {c : Code} {f' : F3} {rv : Int32} (C0 : mmC yX7_load cX7_load 4 (some .int) p s m args meth c) {f : F3} (h : S_X7_load_29 f = some (rv, f')) (H : Heap) (locs : List Loc) (ls : Array Slot) (hR : mm_R G mm_NT f (GG f) s H locs) (hl : lv_has ls 4 [(0, .ref (ra G 20 0))]) : W p G.1 e (mm_rm 1) s m args below meth c H locs 0 0 (MQ below (mm_Q G mm_NT (some (.int rv)) f' (GG f')) args s 0 0 (mm_A G)) (F0 m 29 ls []) := by
  obtain ⟨hx, hb, hml, hr, hown, hts, hlocks⟩ := id C0
  rw [S_X7_load_29] at h
  refine lv_aload_n hx hb dX7_load_29 rfl (lv_at hl 0 rfl) ?_
  refine lv_bipush (v := (-7)) hx hb dX7_load_30 (by decide) ?_
  obtain ⟨r25, f24, ef24, h⟩ := mm_b2e h
  refine mm_callV (v := some (.int r25)) (f1 := f24) (d0 := 0) (rest := []) [.int (-7)] C0 rfl hR 20 0 (T_X7_refuse G ef24) ws_X7_refuse lk_147 hd_X7_refuse ⟨by decide, by decide⟩ vl_20 rfl rfl rfl hl.1 rfl (Nat.le_of_ble_eq_true rfl) dX7_load_32 (fun H locs hR => ?_)
  refine W.eq (g2 := F0 m 35 ls (.int r25 :: [])) rfl ?_
  obtain ⟨rfl, rfl⟩ := mm_pr h
  exact mm_iret C0 hR dX7_load_35
def S_X7_load (f : F3) (x1 : Int32) (x2 : Int32) (x3 : Int32) : Option (Int32 × F3) := mm_b2 (S_X7_in f x1 1 99) fun r2 f1 => if r2 = 0 then (S_X7_load_29 f1 ) else (mm_b2 (S_X7_in f1 x2 0 9) fun r5 f4 => if r5 = 0 then (S_X7_load_29 f4 ) else (mm_b2 (S_X7_in f4 x3 0 1) fun r8 f7 => if r8 = 0 then (S_X7_load_29 f7 ) else (if (f7 20 0 13) = 24 then (mm_b2 (S_X7_refuse f7 (-8)) fun r23 f22 => some (r23, f22)) else (if okI (f7 20 0 13) 24 then (mm_let (up f7 40 0 (f7 20 0 13).toNatClampNeg x1) fun f12 => if okI (f12 20 0 13) 24 then (mm_let (up f12 41 0 (f12 20 0 13).toNatClampNeg x2) fun f14 => if okI (f14 20 0 13) 24 then (mm_let (up f14 42 0 (f14 20 0 13).toNatClampNeg x3) fun f16 => if okI (f16 20 0 13) 24 then (mm_let (up f16 43 0 (f16 20 0 13).toNatClampNeg 0) fun f18 => if okI (f18 20 0 13) 24 then (mm_let (up f18 46 0 (f18 20 0 13).toNatClampNeg (-1)) fun f20 => mm_let (up f20 20 0 13 ((f20 20 0 13) + 1)) fun f21 => some ((f21 20 0 13) - 1, f21)) else none) else none) else none) else none) else none))))
set_option maxHeartbeats 4000000 in
set_option maxRecDepth 100000 in
theorem T_X7_load (G : mmG) {f f' : F3} {rv : Int32} {x1 : Int32} {x2 : Int32} {x3 : Int32} (h : S_X7_load f x1 x2 x3 = some (rv, f')) : mmM G yX7_load cX7_load 4 (some .int) 1 [.ref (ra G 20 0), .int x1, .int x2, .int x3] f (some (.int rv)) f' := by
  refine mm_start (by decide +kernel) (Nat.le_of_ble_eq_true rfl) ?_
  intro p e s m args below meth c ls C0 hR hl
  obtain ⟨hx, hb, hml, hr, hown, hts, hlocks⟩ := id C0
  have hl : lv_has ls 4 [(0, .ref (ra G 20 0)), (1, .int x1), (2, .int x2), (3, .int x3)] := hl
  rw [S_X7_load] at h
  refine lv_iload_n hx hb dX7_load_0 rfl (lv_at hl 1 rfl) ?_
  refine lv_iconst (v := 1) hx hb dX7_load_1 (by decide) ?_
  refine lv_bipush (v := 99) hx hb dX7_load_2 (by decide) ?_
  obtain ⟨r2, f1, ef1, h⟩ := mm_b2e h
  refine mm_callS (v := some (.int r2)) (f1 := f1) (d0 := 0) (rest := []) [.int x1, .int 1, .int 99] C0 rfl hR (T_X7_in G ef1) ws_X7_in lk_144 hd_X7_in ⟨by decide, by decide⟩ hl.1 rfl (Nat.le_of_ble_eq_true rfl) dX7_load_4 (fun H locs hR => ?_)
  refine W.eq (g2 := F0 m 7 ls (.int r2 :: [])) rfl ?_
  refine lv_if_eq (tgt := 29) hx hb dX7_load_7 (by decide) (fun c3 => ?_) (fun c3 => ?_)
  · rw [if_pos c3] at h
    exact L_X7_load_29 C0 h _ _ _ hR (lv_sub hl [0] rfl)
  · rw [if_neg c3] at h
    refine lv_iload_n hx hb dX7_load_10 rfl (lv_at hl 2 rfl) ?_
    refine lv_iconst (v := 0) hx hb dX7_load_11 (by decide) ?_
    refine lv_bipush (v := 9) hx hb dX7_load_12 (by decide) ?_
    obtain ⟨r5, f4, ef4, h⟩ := mm_b2e h
    refine mm_callS (v := some (.int r5)) (f1 := f4) (d0 := 0) (rest := []) [.int x2, .int 0, .int 9] C0 rfl hR (T_X7_in G ef4) ws_X7_in lk_144 hd_X7_in ⟨by decide, by decide⟩ hl.1 rfl (Nat.le_of_ble_eq_true rfl) dX7_load_14 (fun H locs hR => ?_)
    refine W.eq (g2 := F0 m 17 ls (.int r5 :: [])) rfl ?_
    refine lv_if_eq (tgt := 29) hx hb dX7_load_17 (by decide) (fun c6 => ?_) (fun c6 => ?_)
    · rw [if_pos c6] at h
      exact L_X7_load_29 C0 h _ _ _ hR (lv_sub hl [0] rfl)
    · rw [if_neg c6] at h
      refine lv_iload_n hx hb dX7_load_20 rfl (lv_at hl 3 rfl) ?_
      refine lv_iconst (v := 0) hx hb dX7_load_21 (by decide) ?_
      refine lv_iconst (v := 1) hx hb dX7_load_22 (by decide) ?_
      obtain ⟨r8, f7, ef7, h⟩ := mm_b2e h
      refine mm_callS (v := some (.int r8)) (f1 := f7) (d0 := 0) (rest := []) [.int x3, .int 0, .int 1] C0 rfl hR (T_X7_in G ef7) ws_X7_in lk_144 hd_X7_in ⟨by decide, by decide⟩ hl.1 rfl (Nat.le_of_ble_eq_true rfl) dX7_load_23 (fun H locs hR => ?_)
      refine W.eq (g2 := F0 m 26 ls (.int r8 :: [])) rfl ?_
      refine lv_if_ne (tgt := 36) hx hb dX7_load_26 (by decide) (fun c9 => ?_) (fun c9 => ?_)
      · rw [if_neg c9] at h
        refine lv_aload_n hx hb dX7_load_36 rfl (lv_at hl 0 rfl) ?_
        refine mm_get hx hb hts hown hR 20 0 13 vl_20 (v := .int (f7 20 0 13)) rfl rfl iX7 (by decide) lk_149 rfl dX7_load_37 ?_
        refine lv_bipush (v := 24) hx hb dX7_load_40 (by decide) ?_
        refine lv_icmp_ne (tgt := 52) hx hb dX7_load_42 (by decide) (fun c10 => ?_) (fun c10 => ?_)
        · rw [if_neg c10] at h
          refine lv_aload_n hx hb dX7_load_52 rfl (lv_at hl 0 rfl) ?_
          refine mm_get hx hb hts hown hR 20 0 14 vl_20 (v := .ref (ra G 40 0)) rfl rfl iX7 (by decide) lk_160 rfl dX7_load_53 ?_
          refine lv_aload_n hx hb dX7_load_56 rfl (lv_at hl 0 rfl) ?_
          refine mm_get hx hb hts hown hR 20 0 13 vl_20 (v := .int (f7 20 0 13)) rfl rfl iX7 (by decide) lk_149 rfl dX7_load_57 ?_
          refine lv_iload_n hx hb dX7_load_60 rfl (lv_at hl 1 rfl) ?_
          obtain ⟨z11, h⟩ := mm_if h
          obtain ⟨f12, ef12, h⟩ := mm_lt h
          refine mm_ist hx hb hR 40 0 (by decide) vl_40 (L := 24) (j := f7 20 0 13) (x := x1) (fun _ => rfl) (okI_in z11) dX7_load_61 (fun H locs hR => ?_)
          rw [← ef12] at hR
          refine lv_aload_n hx hb dX7_load_62 rfl (lv_at hl 0 rfl) ?_
          refine mm_get hx hb hts hown hR 20 0 15 vl_20 (v := .ref (ra G 41 0)) rfl rfl iX7 (by decide) lk_159 rfl dX7_load_63 ?_
          refine lv_aload_n hx hb dX7_load_66 rfl (lv_at hl 0 rfl) ?_
          refine mm_get hx hb hts hown hR 20 0 13 vl_20 (v := .int (f12 20 0 13)) rfl rfl iX7 (by decide) lk_149 rfl dX7_load_67 ?_
          refine lv_iload_n hx hb dX7_load_70 rfl (lv_at hl 2 rfl) ?_
          obtain ⟨z13, h⟩ := mm_if h
          obtain ⟨f14, ef14, h⟩ := mm_lt h
          refine mm_ist hx hb hR 41 0 (by decide) vl_41 (L := 24) (j := f12 20 0 13) (x := x2) (fun _ => rfl) (okI_in z13) dX7_load_71 (fun H locs hR => ?_)
          rw [← ef14] at hR
          refine lv_aload_n hx hb dX7_load_72 rfl (lv_at hl 0 rfl) ?_
          refine mm_get hx hb hts hown hR 20 0 16 vl_20 (v := .ref (ra G 42 0)) rfl rfl iX7 (by decide) lk_169 rfl dX7_load_73 ?_
          refine lv_aload_n hx hb dX7_load_76 rfl (lv_at hl 0 rfl) ?_
          refine mm_get hx hb hts hown hR 20 0 13 vl_20 (v := .int (f14 20 0 13)) rfl rfl iX7 (by decide) lk_149 rfl dX7_load_77 ?_
          refine lv_iload_n hx hb dX7_load_80 rfl (lv_at hl 3 rfl) ?_
          obtain ⟨z15, h⟩ := mm_if h
          obtain ⟨f16, ef16, h⟩ := mm_lt h
          refine mm_ist hx hb hR 42 0 (by decide) vl_42 (L := 24) (j := f14 20 0 13) (x := x3) (fun _ => rfl) (okI_in z15) dX7_load_81 (fun H locs hR => ?_)
          rw [← ef16] at hR
          refine lv_aload_n hx hb dX7_load_82 rfl (lv_at hl 0 rfl) ?_
          refine mm_get hx hb hts hown hR 20 0 17 vl_20 (v := .ref (ra G 43 0)) rfl rfl iX7 (by decide) lk_150 rfl dX7_load_83 ?_
          refine lv_aload_n hx hb dX7_load_86 rfl (lv_at hl 0 rfl) ?_
          refine mm_get hx hb hts hown hR 20 0 13 vl_20 (v := .int (f16 20 0 13)) rfl rfl iX7 (by decide) lk_149 rfl dX7_load_87 ?_
          refine lv_iconst (v := 0) hx hb dX7_load_90 (by decide) ?_
          obtain ⟨z17, h⟩ := mm_if h
          obtain ⟨f18, ef18, h⟩ := mm_lt h
          refine mm_ist hx hb hR 43 0 (by decide) vl_43 (L := 24) (j := f16 20 0 13) (x := 0) (fun _ => rfl) (okI_in z17) dX7_load_91 (fun H locs hR => ?_)
          rw [← ef18] at hR
          refine lv_aload_n hx hb dX7_load_92 rfl (lv_at hl 0 rfl) ?_
          refine mm_get hx hb hts hown hR 20 0 20 vl_20 (v := .ref (ra G 46 0)) rfl rfl iX7 (by decide) lk_178 rfl dX7_load_93 ?_
          refine lv_aload_n hx hb dX7_load_96 rfl (lv_at hl 0 rfl) ?_
          refine mm_get hx hb hts hown hR 20 0 13 vl_20 (v := .int (f18 20 0 13)) rfl rfl iX7 (by decide) lk_149 rfl dX7_load_97 ?_
          refine lv_iconst (v := (-1)) hx hb dX7_load_100 (by decide) ?_
          obtain ⟨z19, h⟩ := mm_if h
          obtain ⟨f20, ef20, h⟩ := mm_lt h
          refine mm_ist hx hb hR 46 0 (by decide) vl_46 (L := 24) (j := f18 20 0 13) (x := (-1)) (fun _ => rfl) (okI_in z19) dX7_load_101 (fun H locs hR => ?_)
          rw [← ef20] at hR
          refine lv_aload_n hx hb dX7_load_102 rfl (lv_at hl 0 rfl) ?_
          refine lv_dup hx hb dX7_load_103 rfl ?_
          refine mm_get hx hb hts hown hR 20 0 13 vl_20 (v := .int (f20 20 0 13)) rfl rfl iX7 (by decide) lk_149 rfl dX7_load_104 ?_
          refine lv_iconst (v := 1) hx hb dX7_load_107 (by decide) ?_
          refine lv_iadd hx hb dX7_load_108 ?_
          obtain ⟨f21, ef21, h⟩ := mm_lt h
          refine mm_put hx hb hts hown hR 20 0 13 (by decide) vl_20 (x := (f20 20 0 13) + 1) rfl rfl iX7 tyX7 tyX7_ok nmX7 (by decide) lk_149 rfl rfl rfl (Nat.le_of_ble_eq_true rfl) rfl dX7_load_109 (fun H locs hR => ?_)
          rw [← ef21] at hR
          refine lv_aload_n hx hb dX7_load_112 rfl (lv_at hl 0 rfl) ?_
          refine mm_get hx hb hts hown hR 20 0 13 vl_20 (v := .int (f21 20 0 13)) rfl rfl iX7 (by decide) lk_149 rfl dX7_load_113 ?_
          refine lv_iconst (v := 1) hx hb dX7_load_116 (by decide) ?_
          refine lv_isub hx hb dX7_load_117 ?_
          obtain ⟨rfl, rfl⟩ := mm_pr h
          exact mm_iret C0 hR dX7_load_118
        · rw [if_pos c10] at h
          refine lv_aload_n hx hb dX7_load_45 rfl (lv_at hl 0 rfl) ?_
          refine lv_bipush (v := (-8)) hx hb dX7_load_46 (by decide) ?_
          obtain ⟨r23, f22, ef22, h⟩ := mm_b2e h
          refine mm_callV (v := some (.int r23)) (f1 := f22) (d0 := 0) (rest := []) [.int (-8)] C0 rfl hR 20 0 (T_X7_refuse G ef22) ws_X7_refuse lk_147 hd_X7_refuse ⟨by decide, by decide⟩ vl_20 rfl rfl rfl hl.1 rfl (Nat.le_of_ble_eq_true rfl) dX7_load_48 (fun H locs hR => ?_)
          refine W.eq (g2 := F0 m 51 ls (.int r23 :: [])) rfl ?_
          obtain ⟨rfl, rfl⟩ := mm_pr h
          exact mm_iret C0 hR dX7_load_51
      · rw [if_pos c9] at h
        exact L_X7_load_29 C0 h _ _ _ hR (lv_sub hl [0] rfl)
def S_X7_most_86 (f : F3) (x2 : Int32) (x3 : Int32) : Option (Int32 × F3) := if x2 = (-1) then (if x3 = (-1) then (some (3000, f)) else (if okI x3 10 then (some (f 37 0 x3.toNatClampNeg, f)) else none)) else (if okI x2 10 then (some (f 37 0 x2.toNatClampNeg, f)) else none)
set_option maxHeartbeats 4000000 in
set_option maxRecDepth 100000 in
theorem L_X7_most_86 {G : mmG} {p : Program} {e : Env} {s : State} {m : MethodId} {args : Array Value} {below : List Frame} {meth : Method} {c : Code} {f' : F3} {rv : Int32} (C0 : mmC yX7_most cX7_most 4 (some .int) p s m args meth c) {f : F3} {x2 : Int32} {x3 : Int32} (h : S_X7_most_86 f x2 x3 = some (rv, f')) (H : Heap) (locs : List Loc) (ls : Array Slot) (hR : mm_R G mm_NT f (GG f) s H locs) (hl : lv_has ls 4 [(0, .ref (ra G 20 0)), (2, .int x2), (3, .int x3)]) : W p G.1 e (mm_rm 3) s m args below meth c H locs 0 0 (MQ below (mm_Q G mm_NT (some (.int rv)) f' (GG f')) args s 0 0 (mm_A G)) (F0 m 86 ls []) := by
  obtain ⟨hx, hb, hml, hr, hown, hts, hlocks⟩ := id C0
  rw [S_X7_most_86] at h
  refine lv_iload_n hx hb dX7_most_86 rfl (lv_at hl 1 rfl) ?_
  refine lv_iconst (v := (-1)) hx hb dX7_most_87 (by decide) ?_
  refine lv_icmp_eq (tgt := 100) hx hb dX7_most_88 (by decide) (fun c13 => ?_) (fun c13 => ?_)
  · rw [if_pos c13] at h
    refine lv_iload_n hx hb dX7_most_100 rfl (lv_at hl 2 rfl) ?_
    refine lv_iconst (v := (-1)) hx hb dX7_most_101 (by decide) ?_
    refine lv_icmp_eq (tgt := 114) hx hb dX7_most_102 (by decide) (fun c14 => ?_) (fun c14 => ?_)
    · rw [if_pos c14] at h
      refine lv_sipush (v := 3000) hx hb dX7_most_114 (by decide) ?_
      obtain ⟨rfl, rfl⟩ := mm_pr h
      exact mm_iret C0 hR dX7_most_117
    · rw [if_neg c14] at h
      refine lv_aload_n hx hb dX7_most_105 rfl (lv_at hl 0 rfl) ?_
      refine mm_get hx hb hts hown hR 20 0 10 vl_20 (v := .ref (ra G 37 0)) rfl rfl iX7 (by decide) lk_148 rfl dX7_most_106 ?_
      refine lv_iload_n hx hb dX7_most_109 rfl (lv_at hl 2 rfl) ?_
      obtain ⟨z15, h⟩ := mm_if h
      refine mm_ild hx hb hR 37 0 vl_37 (L := 10) rfl (okI_in z15) dX7_most_110 ?_
      refine lv_goto (tgt := 117) hx hb dX7_most_111 (by decide) ?_
      obtain ⟨rfl, rfl⟩ := mm_pr h
      exact mm_iret C0 hR dX7_most_117
  · rw [if_neg c13] at h
    refine lv_aload_n hx hb dX7_most_91 rfl (lv_at hl 0 rfl) ?_
    refine mm_get hx hb hts hown hR 20 0 10 vl_20 (v := .ref (ra G 37 0)) rfl rfl iX7 (by decide) lk_148 rfl dX7_most_92 ?_
    refine lv_iload_n hx hb dX7_most_95 rfl (lv_at hl 1 rfl) ?_
    obtain ⟨z16, h⟩ := mm_if h
    refine mm_ild hx hb hR 37 0 vl_37 (L := 10) rfl (okI_in z16) dX7_most_96 ?_
    refine lv_goto (tgt := 117) hx hb dX7_most_97 (by decide) ?_
    obtain ⟨rfl, rfl⟩ := mm_pr h
    exact mm_iret C0 hR dX7_most_117
def S_X7_most (f : F3) (x1 : Int32) : Option (Int32 × F3) := if okI x1 10 then (if (f 30 0 x1.toNatClampNeg) = 4 then (some (3000, f)) else (if (f 37 0 x1.toNatClampNeg) = (-1) then (mm_b2 (S_X7_nearest f x1 (-1)) fun r5 f4 => mm_b2 (S_X7_nearest f4 x1 1) fun r7 f6 => if r5 = (-1) then (S_X7_most_86 f6 r5 r7) else (if r7 = (-1) then (S_X7_most_86 f6 r5 r7) else (if okI r5 10 then (if okI r7 10 then (if (f6 37 0 r5.toNatClampNeg) ≤ (f6 37 0 r7.toNatClampNeg) then (some (f6 37 0 r7.toNatClampNeg, f6)) else (some (f6 37 0 r5.toNatClampNeg, f6))) else none) else none))) else (some (f 37 0 x1.toNatClampNeg, f)))) else none
set_option maxHeartbeats 4000000 in
set_option maxRecDepth 100000 in
theorem T_X7_most (G : mmG) {f f' : F3} {rv : Int32} {x1 : Int32} (h : S_X7_most f x1 = some (rv, f')) : mmM G yX7_most cX7_most 4 (some .int) 3 [.ref (ra G 20 0), .int x1] f (some (.int rv)) f' := by
  refine mm_start (by decide +kernel) (Nat.le_of_ble_eq_true rfl) ?_
  intro p e s m args below meth c ls C0 hR hl
  obtain ⟨hx, hb, hml, hr, hown, hts, hlocks⟩ := id C0
  have hl : lv_has ls 4 [(0, .ref (ra G 20 0)), (1, .int x1)] := hl
  rw [S_X7_most] at h
  refine lv_aload_n hx hb dX7_most_0 rfl (lv_at hl 0 rfl) ?_
  refine mm_get hx hb hts hown hR 20 0 3 vl_20 (v := .ref (ra G 30 0)) rfl rfl iX7 (by decide) lk_140 rfl dX7_most_1 ?_
  refine lv_iload_n hx hb dX7_most_4 rfl (lv_at hl 1 rfl) ?_
  obtain ⟨z1, h⟩ := mm_if h
  refine mm_ild hx hb hR 30 0 vl_30 (L := 10) rfl (okI_in z1) dX7_most_5 ?_
  refine lv_iconst (v := 4) hx hb dX7_most_6 (by decide) ?_
  refine lv_icmp_ne (tgt := 14) hx hb dX7_most_7 (by decide) (fun c2 => ?_) (fun c2 => ?_)
  · rw [if_neg c2] at h
    refine lv_aload_n hx hb dX7_most_14 rfl (lv_at hl 0 rfl) ?_
    refine mm_get hx hb hts hown hR 20 0 10 vl_20 (v := .ref (ra G 37 0)) rfl rfl iX7 (by decide) lk_148 rfl dX7_most_15 ?_
    refine lv_iload_n hx hb dX7_most_18 rfl (lv_at hl 1 rfl) ?_
    refine mm_ild hx hb hR 37 0 vl_37 (L := 10) rfl (okI_in z1) dX7_most_19 ?_
    refine lv_iconst (v := (-1)) hx hb dX7_most_20 (by decide) ?_
    refine lv_icmp_eq (tgt := 31) hx hb dX7_most_21 (by decide) (fun c3 => ?_) (fun c3 => ?_)
    · rw [if_pos c3] at h
      refine lv_aload_n hx hb dX7_most_31 rfl (lv_at hl 0 rfl) ?_
      refine lv_iload_n hx hb dX7_most_32 rfl (lv_at hl 1 rfl) ?_
      refine lv_iconst (v := (-1)) hx hb dX7_most_33 (by decide) ?_
      obtain ⟨r5, f4, ef4, h⟩ := mm_b2e h
      refine mm_callV (v := some (.int r5)) (f1 := f4) (d0 := 2) (rest := []) [.int x1, .int (-1)] C0 rfl hR 20 0 (T_X7_nearest G ef4) ws_X7_nearest lk_165 hd_X7_nearest ⟨by decide, by decide⟩ vl_20 rfl rfl rfl hl.1 rfl (Nat.le_of_ble_eq_true rfl) dX7_most_34 (fun H locs hR => ?_)
      refine W.eq (g2 := F0 m 37 ls (.int r5 :: [])) rfl ?_
      refine lv_istore_n (lv' := [(2, .int r5), (0, .ref (ra G 20 0)), (1, .int x1)]) hx hb dX7_most_37 rfl hl (by decide) rfl (fun ls hl => ?_)
      refine lv_aload_n hx hb dX7_most_38 rfl (lv_at hl 1 rfl) ?_
      refine lv_iload_n hx hb dX7_most_39 rfl (lv_at hl 2 rfl) ?_
      refine lv_iconst (v := 1) hx hb dX7_most_40 (by decide) ?_
      obtain ⟨r7, f6, ef6, h⟩ := mm_b2e h
      refine mm_callV (v := some (.int r7)) (f1 := f6) (d0 := 2) (rest := []) [.int x1, .int 1] C0 rfl hR 20 0 (T_X7_nearest G ef6) ws_X7_nearest lk_165 hd_X7_nearest ⟨by decide, by decide⟩ vl_20 rfl rfl rfl hl.1 rfl (Nat.le_of_ble_eq_true rfl) dX7_most_41 (fun H locs hR => ?_)
      refine W.eq (g2 := F0 m 44 ls (.int r7 :: [])) rfl ?_
      refine lv_istore_n (lv' := [(3, .int r7), (2, .int r5), (0, .ref (ra G 20 0)), (1, .int x1)]) hx hb dX7_most_44 rfl hl (by decide) rfl (fun ls hl => ?_)
      refine lv_iload_n hx hb dX7_most_45 rfl (lv_at hl 1 rfl) ?_
      refine lv_iconst (v := (-1)) hx hb dX7_most_46 (by decide) ?_
      refine lv_icmp_eq (tgt := 86) hx hb dX7_most_47 (by decide) (fun c8 => ?_) (fun c8 => ?_)
      · rw [if_pos c8] at h
        exact L_X7_most_86 C0 h _ _ _ hR (lv_sub hl [2, 1, 0] rfl)
      · rw [if_neg c8] at h
        refine lv_iload_n hx hb dX7_most_50 rfl (lv_at hl 0 rfl) ?_
        refine lv_iconst (v := (-1)) hx hb dX7_most_51 (by decide) ?_
        refine lv_icmp_eq (tgt := 86) hx hb dX7_most_52 (by decide) (fun c9 => ?_) (fun c9 => ?_)
        · rw [if_pos c9] at h
          exact L_X7_most_86 C0 h _ _ _ hR (lv_sub hl [2, 1, 0] rfl)
        · rw [if_neg c9] at h
          refine lv_aload_n hx hb dX7_most_55 rfl (lv_at hl 2 rfl) ?_
          refine mm_get hx hb hts hown hR 20 0 10 vl_20 (v := .ref (ra G 37 0)) rfl rfl iX7 (by decide) lk_148 rfl dX7_most_56 ?_
          refine lv_iload_n hx hb dX7_most_59 rfl (lv_at hl 1 rfl) ?_
          obtain ⟨z10, h⟩ := mm_if h
          refine mm_ild hx hb hR 37 0 vl_37 (L := 10) rfl (okI_in z10) dX7_most_60 ?_
          refine lv_aload_n hx hb dX7_most_61 rfl (lv_at hl 2 rfl) ?_
          refine mm_get hx hb hts hown hR 20 0 10 vl_20 (v := .ref (ra G 37 0)) rfl rfl iX7 (by decide) lk_148 rfl dX7_most_62 ?_
          refine lv_iload_n hx hb dX7_most_65 rfl (lv_at hl 0 rfl) ?_
          obtain ⟨z11, h⟩ := mm_if h
          refine mm_ild hx hb hR 37 0 vl_37 (L := 10) rfl (okI_in z11) dX7_most_66 ?_
          refine lv_icmp_le (tgt := 79) hx hb dX7_most_67 (by decide) (fun c12 => ?_) (fun c12 => ?_)
          · rw [if_pos c12] at h
            refine lv_aload_n hx hb dX7_most_79 rfl (lv_at hl 2 rfl) ?_
            refine mm_get hx hb hts hown hR 20 0 10 vl_20 (v := .ref (ra G 37 0)) rfl rfl iX7 (by decide) lk_148 rfl dX7_most_80 ?_
            refine lv_iload_n hx hb dX7_most_83 rfl (lv_at hl 0 rfl) ?_
            refine mm_ild hx hb hR 37 0 vl_37 (L := 10) rfl (okI_in z11) dX7_most_84 ?_
            obtain ⟨rfl, rfl⟩ := mm_pr h
            exact mm_iret C0 hR dX7_most_85
          · rw [if_neg c12] at h
            refine lv_aload_n hx hb dX7_most_70 rfl (lv_at hl 2 rfl) ?_
            refine mm_get hx hb hts hown hR 20 0 10 vl_20 (v := .ref (ra G 37 0)) rfl rfl iX7 (by decide) lk_148 rfl dX7_most_71 ?_
            refine lv_iload_n hx hb dX7_most_74 rfl (lv_at hl 1 rfl) ?_
            refine mm_ild hx hb hR 37 0 vl_37 (L := 10) rfl (okI_in z10) dX7_most_75 ?_
            refine lv_goto (tgt := 85) hx hb dX7_most_76 (by decide) ?_
            obtain ⟨rfl, rfl⟩ := mm_pr h
            exact mm_iret C0 hR dX7_most_85
    · rw [if_neg c3] at h
      refine lv_aload_n hx hb dX7_most_24 rfl (lv_at hl 0 rfl) ?_
      refine mm_get hx hb hts hown hR 20 0 10 vl_20 (v := .ref (ra G 37 0)) rfl rfl iX7 (by decide) lk_148 rfl dX7_most_25 ?_
      refine lv_iload_n hx hb dX7_most_28 rfl (lv_at hl 1 rfl) ?_
      refine mm_ild hx hb hR 37 0 vl_37 (L := 10) rfl (okI_in z1) dX7_most_29 ?_
      obtain ⟨rfl, rfl⟩ := mm_pr h
      exact mm_iret C0 hR dX7_most_30
  · rw [if_pos c2] at h
    refine lv_sipush (v := 3000) hx hb dX7_most_10 (by decide) ?_
    obtain ⟨rfl, rfl⟩ := mm_pr h
    exact mm_iret C0 hR dX7_most_13
def S_X7_look (f : F3) (x1 : Int32) (x2 : Int32) : Option (Int32 × F3) := mm_b2 (S_X7_isCell f x1) fun r2 f1 => if r2 = 0 then (mm_b2 (S_X7_refuse f1 (-3)) fun r32 f31 => some (r32, f31)) else (if x2 = 0 then (if okI x1 10 then (some (f1 30 0 x1.toNatClampNeg, f1)) else none) else if x2 = 1 then (if okI x1 10 then (some (f1 31 0 x1.toNatClampNeg, f1)) else none) else if x2 = 2 then (if okI x1 10 then (some (f1 32 0 x1.toNatClampNeg, f1)) else none) else if x2 = 3 then (if okI x1 10 then (some (f1 33 0 x1.toNatClampNeg, f1)) else none) else if x2 = 4 then (if okI x1 10 then (some (f1 34 0 x1.toNatClampNeg, f1)) else none) else if x2 = 5 then (if okI x1 10 then (some (f1 35 0 x1.toNatClampNeg, f1)) else none) else if x2 = 6 then (if okI x1 10 then (if (f1 30 0 x1.toNatClampNeg) = 3 then (some (f1 36 0 x1.toNatClampNeg, f1)) else (some ((-1), f1))) else none) else if x2 = 7 then (mm_b2 (S_X7_least f1 x1) fun r22 f21 => some (r22, f21)) else if x2 = 8 then (mm_b2 (S_X7_most f1 x1) fun r25 f24 => some (r25, f24)) else if x2 = 9 then (mm_b2 (S_X7_loadsOn f1 x1) fun r28 f27 => some (r28, f27)) else (mm_b2 (S_X7_refuse f1 (-7)) fun r30 f29 => some (r30, f29)))
set_option maxHeartbeats 4000000 in
set_option maxRecDepth 100000 in
theorem T_X7_look (G : mmG) {f f' : F3} {rv : Int32} {x1 : Int32} {x2 : Int32} (h : S_X7_look f x1 x2 = some (rv, f')) : mmM G yX7_look cX7_look 3 (some .int) 4 [.ref (ra G 20 0), .int x1, .int x2] f (some (.int rv)) f' := by
  refine mm_start (by decide +kernel) (Nat.le_of_ble_eq_true rfl) ?_
  intro p e s m args below meth c ls C0 hR hl
  obtain ⟨hx, hb, hml, hr, hown, hts, hlocks⟩ := id C0
  have hl : lv_has ls 3 [(0, .ref (ra G 20 0)), (1, .int x1), (2, .int x2)] := hl
  rw [S_X7_look] at h
  refine lv_aload_n hx hb dX7_look_0 rfl (lv_at hl 0 rfl) ?_
  refine lv_iload_n hx hb dX7_look_1 rfl (lv_at hl 1 rfl) ?_
  obtain ⟨r2, f1, ef1, h⟩ := mm_b2e h
  refine mm_callV (v := some (.int r2)) (f1 := f1) (d0 := 1) (rest := []) [.int x1] C0 rfl hR 20 0 (T_X7_isCell G ef1) ws_X7_isCell lk_146 hd_X7_isCell ⟨by decide, by decide⟩ vl_20 rfl rfl rfl hl.1 rfl (Nat.le_of_ble_eq_true rfl) dX7_look_2 (fun H locs hR => ?_)
  refine W.eq (g2 := F0 m 5 ls (.int r2 :: [])) rfl ?_
  refine lv_if_ne (tgt := 15) hx hb dX7_look_5 (by decide) (fun c3 => ?_) (fun c3 => ?_)
  · rw [if_neg c3] at h
    refine lv_iload_n hx hb dX7_look_15 rfl (lv_at hl 2 rfl) ?_
    refine lv_topi (fun w4 ew4 => ?_)
    by_cases c5 : w4 = 0
    · rw [if_pos (ew4.symm.trans c5)] at h
      rw [c5]
      refine lv_tableIn (off := 56) (tgt := 72) hx hb dX7_look_16 (by decide) (by decide) (by decide +kernel) (by decide) ?_
      refine lv_aload_n hx hb dX7_look_72 rfl (lv_at hl 0 rfl) ?_
      refine mm_get hx hb hts hown hR 20 0 3 vl_20 (v := .ref (ra G 30 0)) rfl rfl iX7 (by decide) lk_140 rfl dX7_look_73 ?_
      refine lv_iload_n hx hb dX7_look_76 rfl (lv_at hl 1 rfl) ?_
      obtain ⟨z6, h⟩ := mm_if h
      refine mm_ild hx hb hR 30 0 vl_30 (L := 10) rfl (okI_in z6) dX7_look_77 ?_
      obtain ⟨rfl, rfl⟩ := mm_pr h
      exact mm_iret C0 hR dX7_look_78
    rw [if_neg (fun q => c5 (ew4.trans q))] at h
    by_cases c7 : w4 = 1
    · rw [if_pos (ew4.symm.trans c7)] at h
      rw [c7]
      refine lv_tableIn (off := 63) (tgt := 79) hx hb dX7_look_16 (by decide) (by decide) (by decide +kernel) (by decide) ?_
      refine lv_aload_n hx hb dX7_look_79 rfl (lv_at hl 0 rfl) ?_
      refine mm_get hx hb hts hown hR 20 0 4 vl_20 (v := .ref (ra G 31 0)) rfl rfl iX7 (by decide) lk_141 rfl dX7_look_80 ?_
      refine lv_iload_n hx hb dX7_look_83 rfl (lv_at hl 1 rfl) ?_
      obtain ⟨z8, h⟩ := mm_if h
      refine mm_ild hx hb hR 31 0 vl_31 (L := 10) rfl (okI_in z8) dX7_look_84 ?_
      obtain ⟨rfl, rfl⟩ := mm_pr h
      exact mm_iret C0 hR dX7_look_85
    rw [if_neg (fun q => c7 (ew4.trans q))] at h
    by_cases c9 : w4 = 2
    · rw [if_pos (ew4.symm.trans c9)] at h
      rw [c9]
      refine lv_tableIn (off := 70) (tgt := 86) hx hb dX7_look_16 (by decide) (by decide) (by decide +kernel) (by decide) ?_
      refine lv_aload_n hx hb dX7_look_86 rfl (lv_at hl 0 rfl) ?_
      refine mm_get hx hb hts hown hR 20 0 5 vl_20 (v := .ref (ra G 32 0)) rfl rfl iX7 (by decide) lk_154 rfl dX7_look_87 ?_
      refine lv_iload_n hx hb dX7_look_90 rfl (lv_at hl 1 rfl) ?_
      obtain ⟨z10, h⟩ := mm_if h
      refine mm_ild hx hb hR 32 0 vl_32 (L := 10) rfl (okI_in z10) dX7_look_91 ?_
      obtain ⟨rfl, rfl⟩ := mm_pr h
      exact mm_iret C0 hR dX7_look_92
    rw [if_neg (fun q => c9 (ew4.trans q))] at h
    by_cases c11 : w4 = 3
    · rw [if_pos (ew4.symm.trans c11)] at h
      rw [c11]
      refine lv_tableIn (off := 77) (tgt := 93) hx hb dX7_look_16 (by decide) (by decide) (by decide +kernel) (by decide) ?_
      refine lv_aload_n hx hb dX7_look_93 rfl (lv_at hl 0 rfl) ?_
      refine mm_get hx hb hts hown hR 20 0 6 vl_20 (v := .ref (ra G 33 0)) rfl rfl iX7 (by decide) lk_171 rfl dX7_look_94 ?_
      refine lv_iload_n hx hb dX7_look_97 rfl (lv_at hl 1 rfl) ?_
      obtain ⟨z12, h⟩ := mm_if h
      refine mm_ild hx hb hR 33 0 vl_33 (L := 10) rfl (okI_in z12) dX7_look_98 ?_
      obtain ⟨rfl, rfl⟩ := mm_pr h
      exact mm_iret C0 hR dX7_look_99
    rw [if_neg (fun q => c11 (ew4.trans q))] at h
    by_cases c13 : w4 = 4
    · rw [if_pos (ew4.symm.trans c13)] at h
      rw [c13]
      refine lv_tableIn (off := 84) (tgt := 100) hx hb dX7_look_16 (by decide) (by decide) (by decide +kernel) (by decide) ?_
      refine lv_aload_n hx hb dX7_look_100 rfl (lv_at hl 0 rfl) ?_
      refine mm_get hx hb hts hown hR 20 0 7 vl_20 (v := .ref (ra G 34 0)) rfl rfl iX7 (by decide) lk_172 rfl dX7_look_101 ?_
      refine lv_iload_n hx hb dX7_look_104 rfl (lv_at hl 1 rfl) ?_
      obtain ⟨z14, h⟩ := mm_if h
      refine mm_ild hx hb hR 34 0 vl_34 (L := 10) rfl (okI_in z14) dX7_look_105 ?_
      obtain ⟨rfl, rfl⟩ := mm_pr h
      exact mm_iret C0 hR dX7_look_106
    rw [if_neg (fun q => c13 (ew4.trans q))] at h
    by_cases c15 : w4 = 5
    · rw [if_pos (ew4.symm.trans c15)] at h
      rw [c15]
      refine lv_tableIn (off := 91) (tgt := 107) hx hb dX7_look_16 (by decide) (by decide) (by decide +kernel) (by decide) ?_
      refine lv_aload_n hx hb dX7_look_107 rfl (lv_at hl 0 rfl) ?_
      refine mm_get hx hb hts hown hR 20 0 8 vl_20 (v := .ref (ra G 35 0)) rfl rfl iX7 (by decide) lk_155 rfl dX7_look_108 ?_
      refine lv_iload_n hx hb dX7_look_111 rfl (lv_at hl 1 rfl) ?_
      obtain ⟨z16, h⟩ := mm_if h
      refine mm_ild hx hb hR 35 0 vl_35 (L := 10) rfl (okI_in z16) dX7_look_112 ?_
      obtain ⟨rfl, rfl⟩ := mm_pr h
      exact mm_iret C0 hR dX7_look_113
    rw [if_neg (fun q => c15 (ew4.trans q))] at h
    by_cases c17 : w4 = 6
    · rw [if_pos (ew4.symm.trans c17)] at h
      rw [c17]
      refine lv_tableIn (off := 98) (tgt := 114) hx hb dX7_look_16 (by decide) (by decide) (by decide +kernel) (by decide) ?_
      refine lv_aload_n hx hb dX7_look_114 rfl (lv_at hl 0 rfl) ?_
      refine mm_get hx hb hts hown hR 20 0 3 vl_20 (v := .ref (ra G 30 0)) rfl rfl iX7 (by decide) lk_140 rfl dX7_look_115 ?_
      refine lv_iload_n hx hb dX7_look_118 rfl (lv_at hl 1 rfl) ?_
      obtain ⟨z18, h⟩ := mm_if h
      refine mm_ild hx hb hR 30 0 vl_30 (L := 10) rfl (okI_in z18) dX7_look_119 ?_
      refine lv_iconst (v := 3) hx hb dX7_look_120 (by decide) ?_
      refine lv_icmp_ne (tgt := 133) hx hb dX7_look_121 (by decide) (fun c19 => ?_) (fun c19 => ?_)
      · rw [if_neg c19] at h
        refine lv_iconst (v := (-1)) hx hb dX7_look_133 (by decide) ?_
        obtain ⟨rfl, rfl⟩ := mm_pr h
        exact mm_iret C0 hR dX7_look_134
      · rw [if_pos c19] at h
        refine lv_aload_n hx hb dX7_look_124 rfl (lv_at hl 0 rfl) ?_
        refine mm_get hx hb hts hown hR 20 0 9 vl_20 (v := .ref (ra G 36 0)) rfl rfl iX7 (by decide) lk_175 rfl dX7_look_125 ?_
        refine lv_iload_n hx hb dX7_look_128 rfl (lv_at hl 1 rfl) ?_
        refine mm_ild hx hb hR 36 0 vl_36 (L := 10) rfl (okI_in z18) dX7_look_129 ?_
        refine lv_goto (tgt := 134) hx hb dX7_look_130 (by decide) ?_
        obtain ⟨rfl, rfl⟩ := mm_pr h
        exact mm_iret C0 hR dX7_look_134
    rw [if_neg (fun q => c17 (ew4.trans q))] at h
    by_cases c20 : w4 = 7
    · rw [if_pos (ew4.symm.trans c20)] at h
      rw [c20]
      refine lv_tableIn (off := 119) (tgt := 135) hx hb dX7_look_16 (by decide) (by decide) (by decide +kernel) (by decide) ?_
      refine lv_aload_n hx hb dX7_look_135 rfl (lv_at hl 0 rfl) ?_
      refine lv_iload_n hx hb dX7_look_136 rfl (lv_at hl 1 rfl) ?_
      obtain ⟨r22, f21, ef21, h⟩ := mm_b2e h
      refine mm_callV (v := some (.int r22)) (f1 := f21) (d0 := 3) (rest := []) [.int x1] C0 rfl hR 20 0 (T_X7_least G ef21) ws_X7_least lk_167 hd_X7_least ⟨by decide, by decide⟩ vl_20 rfl rfl rfl hl.1 rfl (Nat.le_of_ble_eq_true rfl) dX7_look_137 (fun H locs hR => ?_)
      refine W.eq (g2 := F0 m 140 ls (.int r22 :: [])) rfl ?_
      obtain ⟨rfl, rfl⟩ := mm_pr h
      exact mm_iret C0 hR dX7_look_140
    rw [if_neg (fun q => c20 (ew4.trans q))] at h
    by_cases c23 : w4 = 8
    · rw [if_pos (ew4.symm.trans c23)] at h
      rw [c23]
      refine lv_tableIn (off := 125) (tgt := 141) hx hb dX7_look_16 (by decide) (by decide) (by decide +kernel) (by decide) ?_
      refine lv_aload_n hx hb dX7_look_141 rfl (lv_at hl 0 rfl) ?_
      refine lv_iload_n hx hb dX7_look_142 rfl (lv_at hl 1 rfl) ?_
      obtain ⟨r25, f24, ef24, h⟩ := mm_b2e h
      refine mm_callV (v := some (.int r25)) (f1 := f24) (d0 := 3) (rest := []) [.int x1] C0 rfl hR 20 0 (T_X7_most G ef24) ws_X7_most lk_197 hd_X7_most ⟨by decide, by decide⟩ vl_20 rfl rfl rfl hl.1 rfl (Nat.le_of_ble_eq_true rfl) dX7_look_143 (fun H locs hR => ?_)
      refine W.eq (g2 := F0 m 146 ls (.int r25 :: [])) rfl ?_
      obtain ⟨rfl, rfl⟩ := mm_pr h
      exact mm_iret C0 hR dX7_look_146
    rw [if_neg (fun q => c23 (ew4.trans q))] at h
    by_cases c26 : w4 = 9
    · rw [if_pos (ew4.symm.trans c26)] at h
      rw [c26]
      refine lv_tableIn (off := 131) (tgt := 147) hx hb dX7_look_16 (by decide) (by decide) (by decide +kernel) (by decide) ?_
      refine lv_aload_n hx hb dX7_look_147 rfl (lv_at hl 0 rfl) ?_
      refine lv_iload_n hx hb dX7_look_148 rfl (lv_at hl 1 rfl) ?_
      obtain ⟨r28, f27, ef27, h⟩ := mm_b2e h
      refine mm_callV (v := some (.int r28)) (f1 := f27) (d0 := 0) (rest := []) [.int x1] C0 rfl hR 20 0 (T_X7_loadsOn G ef27) ws_X7_loadsOn lk_152 hd_X7_loadsOn ⟨by decide, by decide⟩ vl_20 rfl rfl rfl hl.1 rfl (Nat.le_of_ble_eq_true rfl) dX7_look_149 (fun H locs hR => ?_)
      refine W.eq (g2 := F0 m 152 ls (.int r28 :: [])) rfl ?_
      obtain ⟨rfl, rfl⟩ := mm_pr h
      exact mm_iret C0 hR dX7_look_152
    rw [if_neg (fun q => c26 (ew4.trans q))] at h
    have tc5 := lv_neT (a := 0) c5 (by decide)
    have tc7 := lv_neT (a := 1) c7 (by decide)
    have tc9 := lv_neT (a := 2) c9 (by decide)
    have tc11 := lv_neT (a := 3) c11 (by decide)
    have tc13 := lv_neT (a := 4) c13 (by decide)
    have tc15 := lv_neT (a := 5) c15 (by decide)
    have tc17 := lv_neT (a := 6) c17 (by decide)
    have tc20 := lv_neT (a := 7) c20 (by decide)
    have tc23 := lv_neT (a := 8) c23 (by decide)
    have tc26 := lv_neT (a := 9) c26 (by decide)
    refine lv_tableOut (tgt := 153) hx hb dX7_look_16 (by omega) (by decide) ?_
    refine lv_aload_n hx hb dX7_look_153 rfl (lv_at hl 0 rfl) ?_
    refine lv_bipush (v := (-7)) hx hb dX7_look_154 (by decide) ?_
    obtain ⟨r30, f29, ef29, h⟩ := mm_b2e h
    refine mm_callV (v := some (.int r30)) (f1 := f29) (d0 := 0) (rest := []) [.int (-7)] C0 rfl hR 20 0 (T_X7_refuse G ef29) ws_X7_refuse lk_147 hd_X7_refuse ⟨by decide, by decide⟩ vl_20 rfl rfl rfl hl.1 rfl (Nat.le_of_ble_eq_true rfl) dX7_look_156 (fun H locs hR => ?_)
    refine W.eq (g2 := F0 m 159 ls (.int r30 :: [])) rfl ?_
    obtain ⟨rfl, rfl⟩ := mm_pr h
    exact mm_iret C0 hR dX7_look_159
  · rw [if_pos c3] at h
    refine lv_aload_n hx hb dX7_look_8 rfl (lv_at hl 0 rfl) ?_
    refine lv_bipush (v := (-3)) hx hb dX7_look_9 (by decide) ?_
    obtain ⟨r32, f31, ef31, h⟩ := mm_b2e h
    refine mm_callV (v := some (.int r32)) (f1 := f31) (d0 := 0) (rest := []) [.int (-3)] C0 rfl hR 20 0 (T_X7_refuse G ef31) ws_X7_refuse lk_147 hd_X7_refuse ⟨by decide, by decide⟩ vl_20 rfl rfl rfl hl.1 rfl (Nat.le_of_ble_eq_true rfl) dX7_look_11 (fun H locs hR => ?_)
    refine W.eq (g2 := F0 m 14 ls (.int r32 :: [])) rfl ?_
    obtain ⟨rfl, rfl⟩ := mm_pr h
    exact mm_iret C0 hR dX7_look_14
