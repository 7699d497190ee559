theorem lkL_0 : Cond.methodLink RL 13 yX6_cell ∈ BIG := mm_bigI 311 (by decide +kernel) rfl
theorem lkL_1 : Cond.methodLink RL 17 yX7_cell ∈ BIG := mm_bigI 814 (by decide +kernel) rfl
theorem lkL_2 : Cond.methodLink RL 13 yX6_cell ∈ BIG := mm_bigI 311 (by decide +kernel) rfl
theorem lkL_3 : Cond.methodLink RL 17 yX7_cell ∈ BIG := mm_bigI 814 (by decide +kernel) rfl
theorem lkL_4 : Cond.methodLink RL 18 yX6_look ∈ BIG := mm_bigI 322 (by decide +kernel) rfl
theorem lkL_5 : Cond.methodLink RL 22 yX7_look ∈ BIG := mm_bigI 825 (by decide +kernel) rfl
theorem lkL_6 : Cond.methodLink RL 23 yX6_thick ∈ BIG := mm_bigI 352 (by decide +kernel) rfl
theorem lkL_7 : Cond.methodLink RL 26 yX7_thick ∈ BIG := mm_bigI 849 (by decide +kernel) rfl
theorem lkL_8 : Cond.methodLink RL 27 yX6_read ∈ BIG := mm_bigI 356 (by decide +kernel) rfl
theorem lkL_9 : Cond.methodLink RL 31 yX7_read ∈ BIG := mm_bigI 853 (by decide +kernel) rfl
theorem lkL_10 : Cond.methodLink RL 32 yX6_bears ∈ BIG := mm_bigI 360 (by decide +kernel) rfl
theorem lkL_11 : Cond.methodLink RL 35 yX7_bears ∈ BIG := mm_bigI 857 (by decide +kernel) rfl
theorem lkL_12 : Cond.methodLink RL 36 yX6_weather ∈ BIG := mm_bigI 368 (by decide +kernel) rfl
theorem lkL_13 : Cond.methodLink RL 39 yX7_weather ∈ BIG := mm_bigI 865 (by decide +kernel) rfl
theorem lkL_14 : Cond.methodLink RL 40 yX6_cold ∈ BIG := mm_bigI 372 (by decide +kernel) rfl
theorem lkL_15 : Cond.methodLink RL 44 yX7_cold ∈ BIG := mm_bigI 1038 (by decide +kernel) rfl
theorem lkL_16 : Cond.methodLink RL 45 yX6_heat ∈ BIG := mm_bigI 376 (by decide +kernel) rfl
theorem lkL_17 : Cond.methodLink RL 48 yX7_heat ∈ BIG := mm_bigI 873 (by decide +kernel) rfl
theorem lkL_18 : Cond.methodLink RL 49 yX6_sweep ∈ BIG := mm_bigI 392 (by decide +kernel) rfl
theorem lkL_19 : Cond.methodLink RL 52 yX7_sweep ∈ BIG := mm_bigI 881 (by decide +kernel) rfl
theorem lkL_20 : Cond.methodLink RL 53 yX6_flood ∈ BIG := mm_bigI 400 (by decide +kernel) rfl
theorem lkL_21 : Cond.methodLink RL 56 yX7_flood ∈ BIG := mm_bigI 889 (by decide +kernel) rfl
theorem lkL_22 : Cond.methodLink RL 57 yX6_bypass ∈ BIG := mm_bigI 404 (by decide +kernel) rfl
theorem lkL_23 : Cond.methodLink RL 60 yX7_bypass ∈ BIG := mm_bigI 893 (by decide +kernel) rfl
theorem lkL_24 : Cond.methodLink RL 61 yX6_snow ∈ BIG := mm_bigI 408 (by decide +kernel) rfl
theorem lkL_25 : Cond.methodLink RL 64 yX7_snow ∈ BIG := mm_bigI 897 (by decide +kernel) rfl
theorem lkL_26 : Cond.methodLink RL 65 yX6_load ∈ BIG := mm_bigI 418 (by decide +kernel) rfl
theorem lkL_27 : Cond.methodLink RL 69 yX7_load ∈ BIG := mm_bigI 901 (by decide +kernel) rfl
theorem lkL_28 : Cond.methodLink RL 70 yX6_of ∈ BIG := mm_bigI 426 (by decide +kernel) rfl
theorem lkL_29 : Cond.methodLink RL 73 yX7_of ∈ BIG := mm_bigI 905 (by decide +kernel) rfl
theorem lkL_30 : Cond.methodLink RL 74 yX6_may ∈ BIG := mm_bigI 434 (by decide +kernel) rfl
theorem lkL_31 : Cond.methodLink RL 77 yX7_may ∈ BIG := mm_bigI 913 (by decide +kernel) rfl
theorem lkL_32 : Cond.methodLink RL 78 yX6_why ∈ BIG := mm_bigI 458 (by decide +kernel) rfl
theorem lkL_33 : Cond.methodLink RL 81 yX7_why ∈ BIG := mm_bigI 933 (by decide +kernel) rfl
theorem lkL_34 : Cond.methodLink RL 82 yX6_turn ∈ BIG := mm_bigI 462 (by decide +kernel) rfl
theorem lkL_35 : Cond.methodLink RL 85 yX7_turn ∈ BIG := mm_bigI 937 (by decide +kernel) rfl
theorem lkL_36 : Cond.methodLink RL 86 yX6_run ∈ BIG := mm_bigI 470 (by decide +kernel) rfl
theorem lkL_37 : Cond.methodLink RL 89 yX7_run ∈ BIG := mm_bigI 945 (by decide +kernel) rfl
theorem lkL_38 : Cond.methodLink RL 90 yX6_thaw ∈ BIG := mm_bigI 536 (by decide +kernel) rfl
theorem lkL_39 : Cond.methodLink RL 93 yX7_thaw ∈ BIG := mm_bigI 977 (by decide +kernel) rfl
theorem lkL_40 : Cond.methodLink RL 94 yX6_feed ∈ BIG := mm_bigI 548 (by decide +kernel) rfl
theorem lkL_41 : Cond.methodLink RL 97 yX7_feed ∈ BIG := mm_bigI 985 (by decide +kernel) rfl
theorem lkL_42 : Cond.methodLink RL 98 yX6_wipe ∈ BIG := mm_bigI 556 (by decide +kernel) rfl
theorem lkL_43 : Cond.methodLink RL 101 yX7_wipe ∈ BIG := mm_bigI 989 (by decide +kernel) rfl
theorem lkL_44 : Cond.methodLink RL 102 yX6_rule ∈ BIG := mm_bigI 560 (by decide +kernel) rfl
theorem lkL_45 : Cond.methodLink RL 105 yX7_rule ∈ BIG := mm_bigI 993 (by decide +kernel) rfl
theorem lkL_46 : Cond.methodLink RL 106 yX6_said ∈ BIG := mm_bigI 669 (by decide +kernel) rfl
theorem lkL_47 : Cond.methodLink RL 109 yX7_said ∈ BIG := mm_bigI 1030 (by decide +kernel) rfl
theorem lkL_48 : Cond.methodLink RL 110 yX6_count ∈ BIG := mm_bigI 673 (by decide +kernel) rfl
theorem lkL_49 : Cond.methodLink RL 113 yX7_count ∈ BIG := mm_bigI 1034 (by decide +kernel) rfl
theorem lkL_50 : Cond.methodLink RL 114 yX6_tell ∈ BIG := mm_bigI 681 (by decide +kernel) rfl
theorem lkL_51 : Cond.methodLink RL 117 yX7_tell ∈ BIG := mm_bigI 1042 (by decide +kernel) rfl
theorem lkL_52 : Cond.methodLink RL 118 yX6_tear ∈ BIG := mm_bigI 685 (by decide +kernel) rfl
theorem lkL_53 : Cond.methodLink RL 121 yX7_tear ∈ BIG := mm_bigI 1046 (by decide +kernel) rfl
theorem lkL_54 : Cond.methodLink RL 122 yX6_row ∈ BIG := mm_bigI 689 (by decide +kernel) rfl
theorem lkL_55 : Cond.methodLink RL 125 yX7_row ∈ BIG := mm_bigI 1050 (by decide +kernel) rfl
theorem lkL_56 : Cond.methodLink RL 126 yX6_copy ∈ BIG := mm_bigI 693 (by decide +kernel) rfl
theorem lkL_57 : Cond.methodLink RL 129 yX7_copy ∈ BIG := mm_bigI 1054 (by decide +kernel) rfl
theorem lkL_58 : Cond.methodLink RL 130 yX6_status ∈ BIG := mm_bigI 700 (by decide +kernel) rfl
theorem lkL_59 : Cond.methodLink RL 133 yX7_status ∈ BIG := mm_bigI 1058 (by decide +kernel) rfl
theorem mm_callG {p : Program} {l : Launch} {e : Env} {R : Room} {s : State} {m : MethodId} {args : Array Value} {below : List Frame} {meth : Method} {c : Code} {H : Heap} {locs : List Loc} {cells slots : Nat} {Q : State → Prop} {cc : ByteArray} {pc nL : Nat} {ls : Array Slot} {rest : List Value} {G : mmG} {f f1 : F3} {index : Nat} {own : String} {y0 : MethodName} {ret0 : Option FieldType} {cc0 : ByteArray} {nL0 d0 : Nat} {v : Option Value} (As : List Value) {st0 : List Value} (hx : p.tables.exec = Jvm.exec) (hb : c.code = cc) (hml : c.maxLocals = nL) (hown : s.vm.findClass own = some m.cls) (hts : ∀ w ∈ BIG, w.before args s = true) (hl : l = G.1) (hR : mm_R G mm_NT f (GG f) s H locs) (r i : Nat) (hM : mmM G y0 cc0 nL0 ret0 d0 (.ref (ra G r i) :: As) f v f1) (hw : mmW y0 cc0 nL0 ret0) (hlk : Cond.methodLink own index y0 ∈ BIG)
    (hd : y0.cls ≠ "java/lang/invoke/MethodHandle" ∧ y0.cls ≠ "java/lang/invoke/VarHandle" ∧ (parseMethodDescriptor y0.desc).map (fun d => d.parameters.length) = some As.length) (hRm : d0 + 1 ≤ R.frames ∧ 8 + (nL0 + 11) + 36 * d0 ≤ R.locals) (hf : cells ≤ R.cells ∧ slots ≤ R.slots)
    (hv : AD r i < mm_NT ∧ mm_loc (AD r i) = (r, i)) {ci : Nat} {fs : List Value} {q : vw_C} (he : mm_ent G r (f r i) (GG f r i) = .inr (ci, fs)) (hc : vwCl[ci]? = some q) (hq : q.1 = y0.cls) (hls : ls.size = nL) (hst : st0 = As.reverse ++ .ref (ra G r i) :: rest) (hroom : (rest.map fun v => v.category).sum ≤ 8) (hdg : decode cc pc = .ok (.invokevirtual index, 3))
    (kk : ∀ (H1 : Heap) (locs1 : List Loc), mm_R G mm_NT f1 (GG f1) s H1 locs1 → W p l e R s m args below meth c H1 locs1 cells slots Q (F0 m (pc + 3) ls (v.toList ++ rest))) : W p l e R s m args below meth c H locs cells slots Q (F0 m pc ls st0) := by
  subst hl
  have hgood : GoodIn BIG (wsV own index y0.cls y0 (.code y0 cc0 nL0 ret0 :: BIG)) := mm_good (fun w hw' => by
    unfold wsV at hw'
    rcases List.mem_append.mp hw' with h | h
    · simp only [List.mem_cons, List.not_mem_nil, or_false] at h
      rcases h with rfl | rfl | rfl | rfl
      · exact hlk
      · exact hw.1
      · exact hw.2.1
      · exact hw.2.2.1
    · rcases List.mem_cons.mp h with rfl | h
      · exact hw.2.2.2
      · exact h)
  have hrecv := va_recv hR.2.1 hR.1 (ci := ci) (q := q) (fs := fs) (q0 := AD r i) (a := ra G r i) hc (by rw [mm_wl_at hv.1 hv.2, he])
  rw [hq] at hrecv
  exact mm_call hR (va_runV (As := As) (rest := rest) (C := y0.cls) (own := own) ⟨hx, hb, hml, hown, hts⟩ hM (cwV As.length hts hgood rfl rfl rfl ⟨rfl, hd.1, hd.2.1, hd.2.2⟩ ⟨hRm.1, hRm.2⟩) ⟨mm_blind, hrecv, fun U hU hW => ⟨rfl, hR.B hU hW⟩⟩ rfl rfl hls hst (lv_room hroom) hdg ⟨hf.1, hf.2⟩) kk
set_option maxHeartbeats 4000000 in
set_option maxRecDepth 100000 in
theorem law_c0 {p : Program} {l : Launch} {e : Env} {s : State} {m : MethodId} {below : List Frame} {meth : Method} {c : Code} {b L : Nat} {xs : Nat → Int32} {G : mmG} {cells slots : Nat} (hl0 : l = G.1) (C0 : lw_At p s m meth c b L xs) (hn0 : mm_n0 G = s.heap.size) (hcs : cells ≤ 600000 ∧ slots ≤ 7302250) {i : Nat} (hi : i + 4 ≤ L) (hL : L ≤ 2048) {f : F3} {H : Heap} {locs : List Loc} {ls : Array Slot} (hR : mm_R G mm_NT f (GG f) s H locs) (hl : lv_has ls 4 [(0, .ref b), (1, .ref (ra G 0 0)), (2, .ref (ra G 20 0)), (3, .int (nI i))]) {Inv : F3 → Prop} (h : ST Inv (fun f => S_X6_cell f (xs (i + 1)) (xs (i + 2)) (bz (xs (i + 3)))) (fun f => S_X7_cell f (xs (i + 1)) (xs (i + 2)) (bz (xs (i + 3)))) f)
    (kk : ∀ (f : F3) (H : Heap) (locs : List Loc), Inv f → mm_R G mm_NT f (GG f) s H locs → W p l e room_1 s m #[Value.ref b] below meth c H locs cells slots (lw_Z below #[Value.ref b] s) (F0 m 1007 ls [])) : W p l e room_1 s m #[Value.ref b] below meth c H locs cells slots (lw_Z below #[Value.ref b] s) (F0 m 164 ls []) := by
  obtain ⟨hx, hb, hr, hml, hown, hts0, hX, hbl, hlocks, hgv⟩ := id C0
  have hts : ∀ w ∈ BIG, w.before #[Value.ref b] s = true := fun w hw => hts0 w (List.mem_filter.mp hw).1
  have hown : s.vm.findClass RL = some m.cls := hown
  have hbA : ¬ mm_A G b := by
    unfold mm_A
    omega
  have a1 : nI i + 1 = nI (i + 1) := nI_1 i
  have a2 : nI i + 2 = nI (i + 2) := nI_add i 2
  have a3 : nI i + 3 = nI (i + 3) := nI_add i 3
  have q1 : (nI (i + 1)).toNatClampNeg = i + 1 := nI_clamp (by omega)
  have q2 : (nI (i + 2)).toNatClampNeg = i + 2 := nI_clamp (by omega)
  have q3 : (nI (i + 3)).toNatClampNeg = i + 3 := nI_clamp (by omega)
  obtain ⟨r, f1, f2, h1, h2, hI⟩ := h
  refine lv_aload_n hx hb dL_law_164 rfl (lv_at hl 1 rfl) ?_
  refine lv_aload_n hx hb dL_law_165 rfl (lv_at hl 0 rfl) ?_
  refine lv_iload_n hx hb dL_law_166 rfl (lv_at hl 3 rfl) ?_
  refine lv_iconst (v := 1) hx hb dL_law_167 (by decide) ?_
  refine lv_iadd hx hb dL_law_168 ?_
  rw [a1]
  refine va_sld hx hb hX hbl hbA hR.2.2.1 (vp_in_nI (show i + 1 < L by omega) (by omega)) dL_law_169 ?_
  rw [q1]
  refine lv_aload_n hx hb dL_law_170 rfl (lv_at hl 0 rfl) ?_
  refine lv_iload_n hx hb dL_law_171 rfl (lv_at hl 3 rfl) ?_
  refine lv_iconst (v := 2) hx hb dL_law_172 (by decide) ?_
  refine lv_iadd hx hb dL_law_173 ?_
  rw [a2]
  refine va_sld hx hb hX hbl hbA hR.2.2.1 (vp_in_nI (show i + 2 < L by omega) (by omega)) dL_law_174 ?_
  rw [q2]
  refine lv_aload_n hx hb dL_law_175 rfl (lv_at hl 0 rfl) ?_
  refine lv_iload_n hx hb dL_law_176 rfl (lv_at hl 3 rfl) ?_
  refine lv_iconst (v := 3) hx hb dL_law_177 (by decide) ?_
  refine lv_iadd hx hb dL_law_178 ?_
  rw [a3]
  refine va_sld hx hb hX hbl hbA hR.2.2.1 (vp_in_nI (show i + 3 < L by omega) (by omega)) dL_law_179 ?_
  rw [q3]
  refine lv_if_eq (tgt := 187) hx hb dL_law_180 (by decide) (fun z => ?_) (fun z => ?_)
  · rw [show bz (xs (i + 3)) = 0 from if_pos z] at h1 h2
    refine lv_iconst (v := 0) hx hb dL_law_187 (by decide) ?_
    refine mm_callG (v := some (.int r)) (f1 := f1) (d0 := 2) (rest := []) [.int (xs (i + 1)), .int (xs (i + 2)), .int 0] hx hb hml hown hts hl0 hR 0 0 (T_X6_cell G h1) ws_X6_cell lkL_0 hd_X6_cell ⟨by decide, by decide⟩ hcs vl_0 rfl rfl rfl hl.1 rfl (Nat.le_of_ble_eq_true rfl) dL_law_188 (fun H locs hR => ?_)
    refine W.eq (g2 := F0 m 191 ls [.int r]) rfl ?_
    refine lv_aload_n hx hb dL_law_191 rfl (lv_at hl 2 rfl) ?_
    refine lv_aload_n hx hb dL_law_192 rfl (lv_at hl 0 rfl) ?_
    refine lv_iload_n hx hb dL_law_193 rfl (lv_at hl 3 rfl) ?_
    refine lv_iconst (v := 1) hx hb dL_law_194 (by decide) ?_
    refine lv_iadd hx hb dL_law_195 ?_
    rw [a1]
    refine va_sld hx hb hX hbl hbA hR.2.2.1 (vp_in_nI (show i + 1 < L by omega) (by omega)) dL_law_196 ?_
    rw [q1]
    refine lv_aload_n hx hb dL_law_197 rfl (lv_at hl 0 rfl) ?_
    refine lv_iload_n hx hb dL_law_198 rfl (lv_at hl 3 rfl) ?_
    refine lv_iconst (v := 2) hx hb dL_law_199 (by decide) ?_
    refine lv_iadd hx hb dL_law_200 ?_
    rw [a2]
    refine va_sld hx hb hX hbl hbA hR.2.2.1 (vp_in_nI (show i + 2 < L by omega) (by omega)) dL_law_201 ?_
    rw [q2]
    refine lv_aload_n hx hb dL_law_202 rfl (lv_at hl 0 rfl) ?_
    refine lv_iload_n hx hb dL_law_203 rfl (lv_at hl 3 rfl) ?_
    refine lv_iconst (v := 3) hx hb dL_law_204 (by decide) ?_
    refine lv_iadd hx hb dL_law_205 ?_
    rw [a3]
    refine va_sld hx hb hX hbl hbA hR.2.2.1 (vp_in_nI (show i + 3 < L by omega) (by omega)) dL_law_206 ?_
    rw [q3]
    refine lv_if_eq (tgt := 214) hx hb dL_law_207 (by decide) (fun _ => ?_) (fun z2 => absurd z z2)
    refine lv_iconst (v := 0) hx hb dL_law_214 (by decide) ?_
    refine mm_callG (v := some (.int r)) (f1 := f2) (d0 := 1) (rest := [.int r]) [.int (xs (i + 1)), .int (xs (i + 2)), .int 0] hx hb hml hown hts hl0 hR 20 0 (T_X7_cell G h2) ws_X7_cell lkL_1 hd_X7_cell ⟨by decide, by decide⟩ hcs vl_20 rfl rfl rfl hl.1 rfl (Nat.le_of_ble_eq_true rfl) dL_law_215 (fun H locs hR => ?_)
    refine W.eq (g2 := F0 m 218 ls [.int r, .int r]) rfl ?_
    refine lv_icmp_eq (tgt := 1007) hx hb dL_law_218 (by decide) (fun _ => ?_) (fun z => absurd rfl z)
    exact kk f2 H locs hI hR
  · rw [show bz (xs (i + 3)) = 1 from if_neg z] at h1 h2
    refine lv_iconst (v := 1) hx hb dL_law_183 (by decide) ?_
    refine lv_goto (tgt := 188) hx hb dL_law_184 (by decide) ?_
    refine mm_callG (v := some (.int r)) (f1 := f1) (d0 := 2) (rest := []) [.int (xs (i + 1)), .int (xs (i + 2)), .int 1] hx hb hml hown hts hl0 hR 0 0 (T_X6_cell G h1) ws_X6_cell lkL_2 hd_X6_cell ⟨by decide, by decide⟩ hcs vl_0 rfl rfl rfl hl.1 rfl (Nat.le_of_ble_eq_true rfl) dL_law_188 (fun H locs hR => ?_)
    refine W.eq (g2 := F0 m 191 ls [.int r]) rfl ?_
    refine lv_aload_n hx hb dL_law_191 rfl (lv_at hl 2 rfl) ?_
    refine lv_aload_n hx hb dL_law_192 rfl (lv_at hl 0 rfl) ?_
    refine lv_iload_n hx hb dL_law_193 rfl (lv_at hl 3 rfl) ?_
    refine lv_iconst (v := 1) hx hb dL_law_194 (by decide) ?_
    refine lv_iadd hx hb dL_law_195 ?_
    rw [a1]
    refine va_sld hx hb hX hbl hbA hR.2.2.1 (vp_in_nI (show i + 1 < L by omega) (by omega)) dL_law_196 ?_
    rw [q1]
    refine lv_aload_n hx hb dL_law_197 rfl (lv_at hl 0 rfl) ?_
    refine lv_iload_n hx hb dL_law_198 rfl (lv_at hl 3 rfl) ?_
    refine lv_iconst (v := 2) hx hb dL_law_199 (by decide) ?_
    refine lv_iadd hx hb dL_law_200 ?_
    rw [a2]
    refine va_sld hx hb hX hbl hbA hR.2.2.1 (vp_in_nI (show i + 2 < L by omega) (by omega)) dL_law_201 ?_
    rw [q2]
    refine lv_aload_n hx hb dL_law_202 rfl (lv_at hl 0 rfl) ?_
    refine lv_iload_n hx hb dL_law_203 rfl (lv_at hl 3 rfl) ?_
    refine lv_iconst (v := 3) hx hb dL_law_204 (by decide) ?_
    refine lv_iadd hx hb dL_law_205 ?_
    rw [a3]
    refine va_sld hx hb hX hbl hbA hR.2.2.1 (vp_in_nI (show i + 3 < L by omega) (by omega)) dL_law_206 ?_
    rw [q3]
    refine lv_if_eq (tgt := 214) hx hb dL_law_207 (by decide) (fun z2 => absurd z2 z) (fun _ => ?_)
    refine lv_iconst (v := 1) hx hb dL_law_210 (by decide) ?_
    refine lv_goto (tgt := 215) hx hb dL_law_211 (by decide) ?_
    refine mm_callG (v := some (.int r)) (f1 := f2) (d0 := 1) (rest := [.int r]) [.int (xs (i + 1)), .int (xs (i + 2)), .int 1] hx hb hml hown hts hl0 hR 20 0 (T_X7_cell G h2) ws_X7_cell lkL_3 hd_X7_cell ⟨by decide, by decide⟩ hcs vl_20 rfl rfl rfl hl.1 rfl (Nat.le_of_ble_eq_true rfl) dL_law_215 (fun H locs hR => ?_)
    refine W.eq (g2 := F0 m 218 ls [.int r, .int r]) rfl ?_
    refine lv_icmp_eq (tgt := 1007) hx hb dL_law_218 (by decide) (fun _ => ?_) (fun z => absurd rfl z)
    exact kk f2 H locs hI hR
set_option maxHeartbeats 4000000 in
set_option maxRecDepth 100000 in
theorem law_c1 {p : Program} {l : Launch} {e : Env} {s : State} {m : MethodId} {below : List Frame} {meth : Method} {c : Code} {b L : Nat} {xs : Nat → Int32} {G : mmG} {cells slots : Nat} (hl0 : l = G.1) (C0 : lw_At p s m meth c b L xs) (hn0 : mm_n0 G = s.heap.size) (hcs : cells ≤ 600000 ∧ slots ≤ 7302250) {i : Nat} (hi : i + 4 ≤ L) (hL : L ≤ 2048) {f : F3} {H : Heap} {locs : List Loc} {ls : Array Slot} (hR : mm_R G mm_NT f (GG f) s H locs) (hl : lv_has ls 4 [(0, .ref b), (1, .ref (ra G 0 0)), (2, .ref (ra G 20 0)), (3, .int (nI i))]) {Inv : F3 → Prop} (h : ST Inv (fun f => S_X6_look f (xs (i + 1)) (xs (i + 2))) (fun f => S_X7_look f (xs (i + 1)) (xs (i + 2))) f)
    (kk : ∀ (f : F3) (H : Heap) (locs : List Loc), Inv f → mm_R G mm_NT f (GG f) s H locs → W p l e room_1 s m #[Value.ref b] below meth c H locs cells slots (lw_Z below #[Value.ref b] s) (F0 m 1007 ls [])) : W p l e room_1 s m #[Value.ref b] below meth c H locs cells slots (lw_Z below #[Value.ref b] s) (F0 m 223 ls []) := by
  obtain ⟨hx, hb, hr, hml, hown, hts0, hX, hbl, hlocks, hgv⟩ := id C0
  have hts : ∀ w ∈ BIG, w.before #[Value.ref b] s = true := fun w hw => hts0 w (List.mem_filter.mp hw).1
  have hown : s.vm.findClass RL = some m.cls := hown
  have hbA : ¬ mm_A G b := by
    unfold mm_A
    omega
  have a1 : nI i + 1 = nI (i + 1) := nI_1 i
  have a2 : nI i + 2 = nI (i + 2) := nI_add i 2
  have a3 : nI i + 3 = nI (i + 3) := nI_add i 3
  have q1 : (nI (i + 1)).toNatClampNeg = i + 1 := nI_clamp (by omega)
  have q2 : (nI (i + 2)).toNatClampNeg = i + 2 := nI_clamp (by omega)
  have q3 : (nI (i + 3)).toNatClampNeg = i + 3 := nI_clamp (by omega)
  obtain ⟨r, f1, f2, h1, h2, hI⟩ := h
  refine lv_aload_n hx hb dL_law_223 rfl (lv_at hl 1 rfl) ?_
  refine lv_aload_n hx hb dL_law_224 rfl (lv_at hl 0 rfl) ?_
  refine lv_iload_n hx hb dL_law_225 rfl (lv_at hl 3 rfl) ?_
  refine lv_iconst (v := 1) hx hb dL_law_226 (by decide) ?_
  refine lv_iadd hx hb dL_law_227 ?_
  rw [a1]
  refine va_sld hx hb hX hbl hbA hR.2.2.1 (vp_in_nI (show i + 1 < L by omega) (by omega)) dL_law_228 ?_
  rw [q1]
  refine lv_aload_n hx hb dL_law_229 rfl (lv_at hl 0 rfl) ?_
  refine lv_iload_n hx hb dL_law_230 rfl (lv_at hl 3 rfl) ?_
  refine lv_iconst (v := 2) hx hb dL_law_231 (by decide) ?_
  refine lv_iadd hx hb dL_law_232 ?_
  rw [a2]
  refine va_sld hx hb hX hbl hbA hR.2.2.1 (vp_in_nI (show i + 2 < L by omega) (by omega)) dL_law_233 ?_
  rw [q2]
  refine mm_callG (v := some (.int r)) (f1 := f1) (d0 := 3) (rest := []) [.int (xs (i + 1)), .int (xs (i + 2))] hx hb hml hown hts hl0 hR 0 0 (T_X6_look G h1) ws_X6_look lkL_4 hd_X6_look ⟨by decide, by decide⟩ hcs vl_0 rfl rfl rfl hl.1 rfl (Nat.le_of_ble_eq_true rfl) dL_law_234 (fun H locs hR => ?_)
  refine W.eq (g2 := F0 m 237 ls [.int r]) rfl ?_
  refine lv_aload_n hx hb dL_law_237 rfl (lv_at hl 2 rfl) ?_
  refine lv_aload_n hx hb dL_law_238 rfl (lv_at hl 0 rfl) ?_
  refine lv_iload_n hx hb dL_law_239 rfl (lv_at hl 3 rfl) ?_
  refine lv_iconst (v := 1) hx hb dL_law_240 (by decide) ?_
  refine lv_iadd hx hb dL_law_241 ?_
  rw [a1]
  refine va_sld hx hb hX hbl hbA hR.2.2.1 (vp_in_nI (show i + 1 < L by omega) (by omega)) dL_law_242 ?_
  rw [q1]
  refine lv_aload_n hx hb dL_law_243 rfl (lv_at hl 0 rfl) ?_
  refine lv_iload_n hx hb dL_law_244 rfl (lv_at hl 3 rfl) ?_
  refine lv_iconst (v := 2) hx hb dL_law_245 (by decide) ?_
  refine lv_iadd hx hb dL_law_246 ?_
  rw [a2]
  refine va_sld hx hb hX hbl hbA hR.2.2.1 (vp_in_nI (show i + 2 < L by omega) (by omega)) dL_law_247 ?_
  rw [q2]
  refine mm_callG (v := some (.int r)) (f1 := f2) (d0 := 4) (rest := [.int r]) [.int (xs (i + 1)), .int (xs (i + 2))] hx hb hml hown hts hl0 hR 20 0 (T_X7_look G h2) ws_X7_look lkL_5 hd_X7_look ⟨by decide, by decide⟩ hcs vl_20 rfl rfl rfl hl.1 rfl (Nat.le_of_ble_eq_true rfl) dL_law_248 (fun H locs hR => ?_)
  refine W.eq (g2 := F0 m 251 ls [.int r, .int r]) rfl ?_
  refine lv_icmp_eq (tgt := 1007) hx hb dL_law_251 (by decide) (fun _ => ?_) (fun z => absurd rfl z)
  exact kk f2 H locs hI hR
set_option maxHeartbeats 4000000 in
set_option maxRecDepth 100000 in
theorem law_c2 {p : Program} {l : Launch} {e : Env} {s : State} {m : MethodId} {below : List Frame} {meth : Method} {c : Code} {b L : Nat} {xs : Nat → Int32} {G : mmG} {cells slots : Nat} (hl0 : l = G.1) (C0 : lw_At p s m meth c b L xs) (hn0 : mm_n0 G = s.heap.size) (hcs : cells ≤ 600000 ∧ slots ≤ 7302250) {i : Nat} (hi : i + 4 ≤ L) (hL : L ≤ 2048) {f : F3} {H : Heap} {locs : List Loc} {ls : Array Slot} (hR : mm_R G mm_NT f (GG f) s H locs) (hl : lv_has ls 4 [(0, .ref b), (1, .ref (ra G 0 0)), (2, .ref (ra G 20 0)), (3, .int (nI i))]) {Inv : F3 → Prop} (h : ST Inv (fun f => S_X6_thick f (xs (i + 1)) (xs (i + 2))) (fun f => S_X7_thick f (xs (i + 1)) (xs (i + 2))) f)
    (kk : ∀ (f : F3) (H : Heap) (locs : List Loc), Inv f → mm_R G mm_NT f (GG f) s H locs → W p l e room_1 s m #[Value.ref b] below meth c H locs cells slots (lw_Z below #[Value.ref b] s) (F0 m 1007 ls [])) : W p l e room_1 s m #[Value.ref b] below meth c H locs cells slots (lw_Z below #[Value.ref b] s) (F0 m 256 ls []) := by
  obtain ⟨hx, hb, hr, hml, hown, hts0, hX, hbl, hlocks, hgv⟩ := id C0
  have hts : ∀ w ∈ BIG, w.before #[Value.ref b] s = true := fun w hw => hts0 w (List.mem_filter.mp hw).1
  have hown : s.vm.findClass RL = some m.cls := hown
  have hbA : ¬ mm_A G b := by
    unfold mm_A
    omega
  have a1 : nI i + 1 = nI (i + 1) := nI_1 i
  have a2 : nI i + 2 = nI (i + 2) := nI_add i 2
  have a3 : nI i + 3 = nI (i + 3) := nI_add i 3
  have q1 : (nI (i + 1)).toNatClampNeg = i + 1 := nI_clamp (by omega)
  have q2 : (nI (i + 2)).toNatClampNeg = i + 2 := nI_clamp (by omega)
  have q3 : (nI (i + 3)).toNatClampNeg = i + 3 := nI_clamp (by omega)
  obtain ⟨r, f1, f2, h1, h2, hI⟩ := h
  refine lv_aload_n hx hb dL_law_256 rfl (lv_at hl 1 rfl) ?_
  refine lv_aload_n hx hb dL_law_257 rfl (lv_at hl 0 rfl) ?_
  refine lv_iload_n hx hb dL_law_258 rfl (lv_at hl 3 rfl) ?_
  refine lv_iconst (v := 1) hx hb dL_law_259 (by decide) ?_
  refine lv_iadd hx hb dL_law_260 ?_
  rw [a1]
  refine va_sld hx hb hX hbl hbA hR.2.2.1 (vp_in_nI (show i + 1 < L by omega) (by omega)) dL_law_261 ?_
  rw [q1]
  refine lv_aload_n hx hb dL_law_262 rfl (lv_at hl 0 rfl) ?_
  refine lv_iload_n hx hb dL_law_263 rfl (lv_at hl 3 rfl) ?_
  refine lv_iconst (v := 2) hx hb dL_law_264 (by decide) ?_
  refine lv_iadd hx hb dL_law_265 ?_
  rw [a2]
  refine va_sld hx hb hX hbl hbA hR.2.2.1 (vp_in_nI (show i + 2 < L by omega) (by omega)) dL_law_266 ?_
  rw [q2]
  refine mm_callG (v := some (.int r)) (f1 := f1) (d0 := 2) (rest := []) [.int (xs (i + 1)), .int (xs (i + 2))] hx hb hml hown hts hl0 hR 0 0 (T_X6_thick G h1) ws_X6_thick lkL_6 hd_X6_thick ⟨by decide, by decide⟩ hcs vl_0 rfl rfl rfl hl.1 rfl (Nat.le_of_ble_eq_true rfl) dL_law_267 (fun H locs hR => ?_)
  refine W.eq (g2 := F0 m 270 ls [.int r]) rfl ?_
  refine lv_aload_n hx hb dL_law_270 rfl (lv_at hl 2 rfl) ?_
  refine lv_aload_n hx hb dL_law_271 rfl (lv_at hl 0 rfl) ?_
  refine lv_iload_n hx hb dL_law_272 rfl (lv_at hl 3 rfl) ?_
  refine lv_iconst (v := 1) hx hb dL_law_273 (by decide) ?_
  refine lv_iadd hx hb dL_law_274 ?_
  rw [a1]
  refine va_sld hx hb hX hbl hbA hR.2.2.1 (vp_in_nI (show i + 1 < L by omega) (by omega)) dL_law_275 ?_
  rw [q1]
  refine lv_aload_n hx hb dL_law_276 rfl (lv_at hl 0 rfl) ?_
  refine lv_iload_n hx hb dL_law_277 rfl (lv_at hl 3 rfl) ?_
  refine lv_iconst (v := 2) hx hb dL_law_278 (by decide) ?_
  refine lv_iadd hx hb dL_law_279 ?_
  rw [a2]
  refine va_sld hx hb hX hbl hbA hR.2.2.1 (vp_in_nI (show i + 2 < L by omega) (by omega)) dL_law_280 ?_
  rw [q2]
  refine mm_callG (v := some (.int r)) (f1 := f2) (d0 := 2) (rest := [.int r]) [.int (xs (i + 1)), .int (xs (i + 2))] hx hb hml hown hts hl0 hR 20 0 (T_X7_thick G h2) ws_X7_thick lkL_7 hd_X7_thick ⟨by decide, by decide⟩ hcs vl_20 rfl rfl rfl hl.1 rfl (Nat.le_of_ble_eq_true rfl) dL_law_281 (fun H locs hR => ?_)
  refine W.eq (g2 := F0 m 284 ls [.int r, .int r]) rfl ?_
  refine lv_icmp_eq (tgt := 1007) hx hb dL_law_284 (by decide) (fun _ => ?_) (fun z => absurd rfl z)
  exact kk f2 H locs hI hR
set_option maxHeartbeats 4000000 in
set_option maxRecDepth 100000 in
theorem law_c3 {p : Program} {l : Launch} {e : Env} {s : State} {m : MethodId} {below : List Frame} {meth : Method} {c : Code} {b L : Nat} {xs : Nat → Int32} {G : mmG} {cells slots : Nat} (hl0 : l = G.1) (C0 : lw_At p s m meth c b L xs) (hn0 : mm_n0 G = s.heap.size) (hcs : cells ≤ 600000 ∧ slots ≤ 7302250) {i : Nat} (hi : i + 4 ≤ L) (hL : L ≤ 2048) {f : F3} {H : Heap} {locs : List Loc} {ls : Array Slot} (hR : mm_R G mm_NT f (GG f) s H locs) (hl : lv_has ls 4 [(0, .ref b), (1, .ref (ra G 0 0)), (2, .ref (ra G 20 0)), (3, .int (nI i))]) {Inv : F3 → Prop} (h : ST Inv (fun f => S_X6_read f (xs (i + 1))) (fun f => S_X7_read f (xs (i + 1))) f)
    (kk : ∀ (f : F3) (H : Heap) (locs : List Loc), Inv f → mm_R G mm_NT f (GG f) s H locs → W p l e room_1 s m #[Value.ref b] below meth c H locs cells slots (lw_Z below #[Value.ref b] s) (F0 m 1007 ls [])) : W p l e room_1 s m #[Value.ref b] below meth c H locs cells slots (lw_Z below #[Value.ref b] s) (F0 m 289 ls []) := by
  obtain ⟨hx, hb, hr, hml, hown, hts0, hX, hbl, hlocks, hgv⟩ := id C0
  have hts : ∀ w ∈ BIG, w.before #[Value.ref b] s = true := fun w hw => hts0 w (List.mem_filter.mp hw).1
  have hown : s.vm.findClass RL = some m.cls := hown
  have hbA : ¬ mm_A G b := by
    unfold mm_A
    omega
  have a1 : nI i + 1 = nI (i + 1) := nI_1 i
  have a2 : nI i + 2 = nI (i + 2) := nI_add i 2
  have a3 : nI i + 3 = nI (i + 3) := nI_add i 3
  have q1 : (nI (i + 1)).toNatClampNeg = i + 1 := nI_clamp (by omega)
  have q2 : (nI (i + 2)).toNatClampNeg = i + 2 := nI_clamp (by omega)
  have q3 : (nI (i + 3)).toNatClampNeg = i + 3 := nI_clamp (by omega)
  obtain ⟨r, f1, f2, h1, h2, hI⟩ := h
  refine lv_aload_n hx hb dL_law_289 rfl (lv_at hl 1 rfl) ?_
  refine lv_aload_n hx hb dL_law_290 rfl (lv_at hl 0 rfl) ?_
  refine lv_iload_n hx hb dL_law_291 rfl (lv_at hl 3 rfl) ?_
  refine lv_iconst (v := 1) hx hb dL_law_292 (by decide) ?_
  refine lv_iadd hx hb dL_law_293 ?_
  rw [a1]
  refine va_sld hx hb hX hbl hbA hR.2.2.1 (vp_in_nI (show i + 1 < L by omega) (by omega)) dL_law_294 ?_
  rw [q1]
  refine mm_callG (v := some (.int r)) (f1 := f1) (d0 := 2) (rest := []) [.int (xs (i + 1))] hx hb hml hown hts hl0 hR 0 0 (T_X6_read G h1) ws_X6_read lkL_8 hd_X6_read ⟨by decide, by decide⟩ hcs vl_0 rfl rfl rfl hl.1 rfl (Nat.le_of_ble_eq_true rfl) dL_law_295 (fun H locs hR => ?_)
  refine W.eq (g2 := F0 m 298 ls [.int r]) rfl ?_
  refine lv_aload_n hx hb dL_law_298 rfl (lv_at hl 2 rfl) ?_
  refine lv_aload_n hx hb dL_law_299 rfl (lv_at hl 0 rfl) ?_
  refine lv_iload_n hx hb dL_law_300 rfl (lv_at hl 3 rfl) ?_
  refine lv_iconst (v := 1) hx hb dL_law_301 (by decide) ?_
  refine lv_iadd hx hb dL_law_302 ?_
  rw [a1]
  refine va_sld hx hb hX hbl hbA hR.2.2.1 (vp_in_nI (show i + 1 < L by omega) (by omega)) dL_law_303 ?_
  rw [q1]
  refine mm_callG (v := some (.int r)) (f1 := f2) (d0 := 2) (rest := [.int r]) [.int (xs (i + 1))] hx hb hml hown hts hl0 hR 20 0 (T_X7_read G h2) ws_X7_read lkL_9 hd_X7_read ⟨by decide, by decide⟩ hcs vl_20 rfl rfl rfl hl.1 rfl (Nat.le_of_ble_eq_true rfl) dL_law_304 (fun H locs hR => ?_)
  refine W.eq (g2 := F0 m 307 ls [.int r, .int r]) rfl ?_
  refine lv_icmp_eq (tgt := 1007) hx hb dL_law_307 (by decide) (fun _ => ?_) (fun z => absurd rfl z)
  exact kk f2 H locs hI hR
set_option maxHeartbeats 4000000 in
set_option maxRecDepth 100000 in
theorem law_c4 {p : Program} {l : Launch} {e : Env} {s : State} {m : MethodId} {below : List Frame} {meth : Method} {c : Code} {b L : Nat} {xs : Nat → Int32} {G : mmG} {cells slots : Nat} (hl0 : l = G.1) (C0 : lw_At p s m meth c b L xs) (hn0 : mm_n0 G = s.heap.size) (hcs : cells ≤ 600000 ∧ slots ≤ 7302250) {i : Nat} (hi : i + 4 ≤ L) (hL : L ≤ 2048) {f : F3} {H : Heap} {locs : List Loc} {ls : Array Slot} (hR : mm_R G mm_NT f (GG f) s H locs) (hl : lv_has ls 4 [(0, .ref b), (1, .ref (ra G 0 0)), (2, .ref (ra G 20 0)), (3, .int (nI i))]) {Inv : F3 → Prop} (h : ST Inv (fun f => S_X6_bears f (xs (i + 1)) (xs (i + 2))) (fun f => S_X7_bears f (xs (i + 1)) (xs (i + 2))) f)
    (kk : ∀ (f : F3) (H : Heap) (locs : List Loc), Inv f → mm_R G mm_NT f (GG f) s H locs → W p l e room_1 s m #[Value.ref b] below meth c H locs cells slots (lw_Z below #[Value.ref b] s) (F0 m 1007 ls [])) : W p l e room_1 s m #[Value.ref b] below meth c H locs cells slots (lw_Z below #[Value.ref b] s) (F0 m 312 ls []) := by
  obtain ⟨hx, hb, hr, hml, hown, hts0, hX, hbl, hlocks, hgv⟩ := id C0
  have hts : ∀ w ∈ BIG, w.before #[Value.ref b] s = true := fun w hw => hts0 w (List.mem_filter.mp hw).1
  have hown : s.vm.findClass RL = some m.cls := hown
  have hbA : ¬ mm_A G b := by
    unfold mm_A
    omega
  have a1 : nI i + 1 = nI (i + 1) := nI_1 i
  have a2 : nI i + 2 = nI (i + 2) := nI_add i 2
  have a3 : nI i + 3 = nI (i + 3) := nI_add i 3
  have q1 : (nI (i + 1)).toNatClampNeg = i + 1 := nI_clamp (by omega)
  have q2 : (nI (i + 2)).toNatClampNeg = i + 2 := nI_clamp (by omega)
  have q3 : (nI (i + 3)).toNatClampNeg = i + 3 := nI_clamp (by omega)
  obtain ⟨r, f1, f2, h1, h2, hI⟩ := h
  refine lv_aload_n hx hb dL_law_312 rfl (lv_at hl 1 rfl) ?_
  refine lv_aload_n hx hb dL_law_313 rfl (lv_at hl 0 rfl) ?_
  refine lv_iload_n hx hb dL_law_314 rfl (lv_at hl 3 rfl) ?_
  refine lv_iconst (v := 1) hx hb dL_law_315 (by decide) ?_
  refine lv_iadd hx hb dL_law_316 ?_
  rw [a1]
  refine va_sld hx hb hX hbl hbA hR.2.2.1 (vp_in_nI (show i + 1 < L by omega) (by omega)) dL_law_317 ?_
  rw [q1]
  refine lv_aload_n hx hb dL_law_318 rfl (lv_at hl 0 rfl) ?_
  refine lv_iload_n hx hb dL_law_319 rfl (lv_at hl 3 rfl) ?_
  refine lv_iconst (v := 2) hx hb dL_law_320 (by decide) ?_
  refine lv_iadd hx hb dL_law_321 ?_
  rw [a2]
  refine va_sld hx hb hX hbl hbA hR.2.2.1 (vp_in_nI (show i + 2 < L by omega) (by omega)) dL_law_322 ?_
  rw [q2]
  refine mm_callG (v := some (.int r)) (f1 := f1) (d0 := 2) (rest := []) [.int (xs (i + 1)), .int (xs (i + 2))] hx hb hml hown hts hl0 hR 0 0 (T_X6_bears G h1) ws_X6_bears lkL_10 hd_X6_bears ⟨by decide, by decide⟩ hcs vl_0 rfl rfl rfl hl.1 rfl (Nat.le_of_ble_eq_true rfl) dL_law_323 (fun H locs hR => ?_)
  refine W.eq (g2 := F0 m 326 ls [.int r]) rfl ?_
  refine lv_aload_n hx hb dL_law_326 rfl (lv_at hl 2 rfl) ?_
  refine lv_aload_n hx hb dL_law_327 rfl (lv_at hl 0 rfl) ?_
  refine lv_iload_n hx hb dL_law_328 rfl (lv_at hl 3 rfl) ?_
  refine lv_iconst (v := 1) hx hb dL_law_329 (by decide) ?_
  refine lv_iadd hx hb dL_law_330 ?_
  rw [a1]
  refine va_sld hx hb hX hbl hbA hR.2.2.1 (vp_in_nI (show i + 1 < L by omega) (by omega)) dL_law_331 ?_
  rw [q1]
  refine lv_aload_n hx hb dL_law_332 rfl (lv_at hl 0 rfl) ?_
  refine lv_iload_n hx hb dL_law_333 rfl (lv_at hl 3 rfl) ?_
  refine lv_iconst (v := 2) hx hb dL_law_334 (by decide) ?_
  refine lv_iadd hx hb dL_law_335 ?_
  rw [a2]
  refine va_sld hx hb hX hbl hbA hR.2.2.1 (vp_in_nI (show i + 2 < L by omega) (by omega)) dL_law_336 ?_
  rw [q2]
  refine mm_callG (v := some (.int r)) (f1 := f2) (d0 := 2) (rest := [.int r]) [.int (xs (i + 1)), .int (xs (i + 2))] hx hb hml hown hts hl0 hR 20 0 (T_X7_bears G h2) ws_X7_bears lkL_11 hd_X7_bears ⟨by decide, by decide⟩ hcs vl_20 rfl rfl rfl hl.1 rfl (Nat.le_of_ble_eq_true rfl) dL_law_337 (fun H locs hR => ?_)
  refine W.eq (g2 := F0 m 340 ls [.int r, .int r]) rfl ?_
  refine lv_icmp_eq (tgt := 1007) hx hb dL_law_340 (by decide) (fun _ => ?_) (fun z => absurd rfl z)
  exact kk f2 H locs hI hR
set_option maxHeartbeats 4000000 in
set_option maxRecDepth 100000 in
theorem law_c5 {p : Program} {l : Launch} {e : Env} {s : State} {m : MethodId} {below : List Frame} {meth : Method} {c : Code} {b L : Nat} {xs : Nat → Int32} {G : mmG} {cells slots : Nat} (hl0 : l = G.1) (C0 : lw_At p s m meth c b L xs) (hn0 : mm_n0 G = s.heap.size) (hcs : cells ≤ 600000 ∧ slots ≤ 7302250) {i : Nat} (hi : i + 4 ≤ L) (hL : L ≤ 2048) {f : F3} {H : Heap} {locs : List Loc} {ls : Array Slot} (hR : mm_R G mm_NT f (GG f) s H locs) (hl : lv_has ls 4 [(0, .ref b), (1, .ref (ra G 0 0)), (2, .ref (ra G 20 0)), (3, .int (nI i))]) {Inv : F3 → Prop} (h : ST Inv (fun f => S_X6_weather f (xs (i + 1)) (xs (i + 2))) (fun f => S_X7_weather f (xs (i + 1)) (xs (i + 2))) f)
    (kk : ∀ (f : F3) (H : Heap) (locs : List Loc), Inv f → mm_R G mm_NT f (GG f) s H locs → W p l e room_1 s m #[Value.ref b] below meth c H locs cells slots (lw_Z below #[Value.ref b] s) (F0 m 1007 ls [])) : W p l e room_1 s m #[Value.ref b] below meth c H locs cells slots (lw_Z below #[Value.ref b] s) (F0 m 345 ls []) := by
  obtain ⟨hx, hb, hr, hml, hown, hts0, hX, hbl, hlocks, hgv⟩ := id C0
  have hts : ∀ w ∈ BIG, w.before #[Value.ref b] s = true := fun w hw => hts0 w (List.mem_filter.mp hw).1
  have hown : s.vm.findClass RL = some m.cls := hown
  have hbA : ¬ mm_A G b := by
    unfold mm_A
    omega
  have a1 : nI i + 1 = nI (i + 1) := nI_1 i
  have a2 : nI i + 2 = nI (i + 2) := nI_add i 2
  have a3 : nI i + 3 = nI (i + 3) := nI_add i 3
  have q1 : (nI (i + 1)).toNatClampNeg = i + 1 := nI_clamp (by omega)
  have q2 : (nI (i + 2)).toNatClampNeg = i + 2 := nI_clamp (by omega)
  have q3 : (nI (i + 3)).toNatClampNeg = i + 3 := nI_clamp (by omega)
  obtain ⟨r, f1, f2, h1, h2, hI⟩ := h
  refine lv_aload_n hx hb dL_law_345 rfl (lv_at hl 1 rfl) ?_
  refine lv_aload_n hx hb dL_law_346 rfl (lv_at hl 0 rfl) ?_
  refine lv_iload_n hx hb dL_law_347 rfl (lv_at hl 3 rfl) ?_
  refine lv_iconst (v := 1) hx hb dL_law_348 (by decide) ?_
  refine lv_iadd hx hb dL_law_349 ?_
  rw [a1]
  refine va_sld hx hb hX hbl hbA hR.2.2.1 (vp_in_nI (show i + 1 < L by omega) (by omega)) dL_law_350 ?_
  rw [q1]
  refine lv_aload_n hx hb dL_law_351 rfl (lv_at hl 0 rfl) ?_
  refine lv_iload_n hx hb dL_law_352 rfl (lv_at hl 3 rfl) ?_
  refine lv_iconst (v := 2) hx hb dL_law_353 (by decide) ?_
  refine lv_iadd hx hb dL_law_354 ?_
  rw [a2]
  refine va_sld hx hb hX hbl hbA hR.2.2.1 (vp_in_nI (show i + 2 < L by omega) (by omega)) dL_law_355 ?_
  rw [q2]
  refine mm_callG (v := some (.int r)) (f1 := f1) (d0 := 2) (rest := []) [.int (xs (i + 1)), .int (xs (i + 2))] hx hb hml hown hts hl0 hR 0 0 (T_X6_weather G h1) ws_X6_weather lkL_12 hd_X6_weather ⟨by decide, by decide⟩ hcs vl_0 rfl rfl rfl hl.1 rfl (Nat.le_of_ble_eq_true rfl) dL_law_356 (fun H locs hR => ?_)
  refine W.eq (g2 := F0 m 359 ls [.int r]) rfl ?_
  refine lv_aload_n hx hb dL_law_359 rfl (lv_at hl 2 rfl) ?_
  refine lv_aload_n hx hb dL_law_360 rfl (lv_at hl 0 rfl) ?_
  refine lv_iload_n hx hb dL_law_361 rfl (lv_at hl 3 rfl) ?_
  refine lv_iconst (v := 1) hx hb dL_law_362 (by decide) ?_
  refine lv_iadd hx hb dL_law_363 ?_
  rw [a1]
  refine va_sld hx hb hX hbl hbA hR.2.2.1 (vp_in_nI (show i + 1 < L by omega) (by omega)) dL_law_364 ?_
  rw [q1]
  refine lv_aload_n hx hb dL_law_365 rfl (lv_at hl 0 rfl) ?_
  refine lv_iload_n hx hb dL_law_366 rfl (lv_at hl 3 rfl) ?_
  refine lv_iconst (v := 2) hx hb dL_law_367 (by decide) ?_
  refine lv_iadd hx hb dL_law_368 ?_
  rw [a2]
  refine va_sld hx hb hX hbl hbA hR.2.2.1 (vp_in_nI (show i + 2 < L by omega) (by omega)) dL_law_369 ?_
  rw [q2]
  refine mm_callG (v := some (.int r)) (f1 := f2) (d0 := 1) (rest := [.int r]) [.int (xs (i + 1)), .int (xs (i + 2))] hx hb hml hown hts hl0 hR 20 0 (T_X7_weather G h2) ws_X7_weather lkL_13 hd_X7_weather ⟨by decide, by decide⟩ hcs vl_20 rfl rfl rfl hl.1 rfl (Nat.le_of_ble_eq_true rfl) dL_law_370 (fun H locs hR => ?_)
  refine W.eq (g2 := F0 m 373 ls [.int r, .int r]) rfl ?_
  refine lv_icmp_eq (tgt := 1007) hx hb dL_law_373 (by decide) (fun _ => ?_) (fun z => absurd rfl z)
  exact kk f2 H locs hI hR
set_option maxHeartbeats 4000000 in
set_option maxRecDepth 100000 in
theorem law_c6 {p : Program} {l : Launch} {e : Env} {s : State} {m : MethodId} {below : List Frame} {meth : Method} {c : Code} {b L : Nat} {xs : Nat → Int32} {G : mmG} {cells slots : Nat} (hl0 : l = G.1) (C0 : lw_At p s m meth c b L xs) (hn0 : mm_n0 G = s.heap.size) (hcs : cells ≤ 600000 ∧ slots ≤ 7302250) {i : Nat} (hi : i + 4 ≤ L) (hL : L ≤ 2048) {f : F3} {H : Heap} {locs : List Loc} {ls : Array Slot} (hR : mm_R G mm_NT f (GG f) s H locs) (hl : lv_has ls 4 [(0, .ref b), (1, .ref (ra G 0 0)), (2, .ref (ra G 20 0)), (3, .int (nI i))]) {Inv : F3 → Prop} (h : ST Inv (fun f => S_X6_cold f ) (fun f => S_X7_cold f ) f)
    (kk : ∀ (f : F3) (H : Heap) (locs : List Loc), Inv f → mm_R G mm_NT f (GG f) s H locs → W p l e room_1 s m #[Value.ref b] below meth c H locs cells slots (lw_Z below #[Value.ref b] s) (F0 m 1007 ls [])) : W p l e room_1 s m #[Value.ref b] below meth c H locs cells slots (lw_Z below #[Value.ref b] s) (F0 m 378 ls []) := by
  obtain ⟨hx, hb, hr, hml, hown, hts0, hX, hbl, hlocks, hgv⟩ := id C0
  have hts : ∀ w ∈ BIG, w.before #[Value.ref b] s = true := fun w hw => hts0 w (List.mem_filter.mp hw).1
  have hown : s.vm.findClass RL = some m.cls := hown
  have hbA : ¬ mm_A G b := by
    unfold mm_A
    omega
  have a1 : nI i + 1 = nI (i + 1) := nI_1 i
  have a2 : nI i + 2 = nI (i + 2) := nI_add i 2
  have a3 : nI i + 3 = nI (i + 3) := nI_add i 3
  have q1 : (nI (i + 1)).toNatClampNeg = i + 1 := nI_clamp (by omega)
  have q2 : (nI (i + 2)).toNatClampNeg = i + 2 := nI_clamp (by omega)
  have q3 : (nI (i + 3)).toNatClampNeg = i + 3 := nI_clamp (by omega)
  obtain ⟨r, f1, f2, h1, h2, hI⟩ := h
  refine lv_aload_n hx hb dL_law_378 rfl (lv_at hl 1 rfl) ?_
  refine mm_callG (v := some (.int r)) (f1 := f1) (d0 := 2) (rest := []) [] hx hb hml hown hts hl0 hR 0 0 (T_X6_cold G h1) ws_X6_cold lkL_14 hd_X6_cold ⟨by decide, by decide⟩ hcs vl_0 rfl rfl rfl hl.1 rfl (Nat.le_of_ble_eq_true rfl) dL_law_379 (fun H locs hR => ?_)
  refine W.eq (g2 := F0 m 382 ls [.int r]) rfl ?_
  refine lv_aload_n hx hb dL_law_382 rfl (lv_at hl 2 rfl) ?_
  refine mm_callG (v := some (.int r)) (f1 := f2) (d0 := 1) (rest := [.int r]) [] hx hb hml hown hts hl0 hR 20 0 (T_X7_cold G h2) ws_X7_cold lkL_15 hd_X7_cold ⟨by decide, by decide⟩ hcs vl_20 rfl rfl rfl hl.1 rfl (Nat.le_of_ble_eq_true rfl) dL_law_383 (fun H locs hR => ?_)
  refine W.eq (g2 := F0 m 386 ls [.int r, .int r]) rfl ?_
  refine lv_icmp_eq (tgt := 1007) hx hb dL_law_386 (by decide) (fun _ => ?_) (fun z => absurd rfl z)
  exact kk f2 H locs hI hR
set_option maxHeartbeats 4000000 in
set_option maxRecDepth 100000 in
theorem law_c7 {p : Program} {l : Launch} {e : Env} {s : State} {m : MethodId} {below : List Frame} {meth : Method} {c : Code} {b L : Nat} {xs : Nat → Int32} {G : mmG} {cells slots : Nat} (hl0 : l = G.1) (C0 : lw_At p s m meth c b L xs) (hn0 : mm_n0 G = s.heap.size) (hcs : cells ≤ 600000 ∧ slots ≤ 7302250) {i : Nat} (hi : i + 4 ≤ L) (hL : L ≤ 2048) {f : F3} {H : Heap} {locs : List Loc} {ls : Array Slot} (hR : mm_R G mm_NT f (GG f) s H locs) (hl : lv_has ls 4 [(0, .ref b), (1, .ref (ra G 0 0)), (2, .ref (ra G 20 0)), (3, .int (nI i))]) {Inv : F3 → Prop} (h : ST Inv (fun f => S_X6_heat f (xs (i + 1))) (fun f => S_X7_heat f (xs (i + 1))) f)
    (kk : ∀ (f : F3) (H : Heap) (locs : List Loc), Inv f → mm_R G mm_NT f (GG f) s H locs → W p l e room_1 s m #[Value.ref b] below meth c H locs cells slots (lw_Z below #[Value.ref b] s) (F0 m 1007 ls [])) : W p l e room_1 s m #[Value.ref b] below meth c H locs cells slots (lw_Z below #[Value.ref b] s) (F0 m 391 ls []) := by
  obtain ⟨hx, hb, hr, hml, hown, hts0, hX, hbl, hlocks, hgv⟩ := id C0
  have hts : ∀ w ∈ BIG, w.before #[Value.ref b] s = true := fun w hw => hts0 w (List.mem_filter.mp hw).1
  have hown : s.vm.findClass RL = some m.cls := hown
  have hbA : ¬ mm_A G b := by
    unfold mm_A
    omega
  have a1 : nI i + 1 = nI (i + 1) := nI_1 i
  have a2 : nI i + 2 = nI (i + 2) := nI_add i 2
  have a3 : nI i + 3 = nI (i + 3) := nI_add i 3
  have q1 : (nI (i + 1)).toNatClampNeg = i + 1 := nI_clamp (by omega)
  have q2 : (nI (i + 2)).toNatClampNeg = i + 2 := nI_clamp (by omega)
  have q3 : (nI (i + 3)).toNatClampNeg = i + 3 := nI_clamp (by omega)
  obtain ⟨r, f1, f2, h1, h2, hI⟩ := h
  refine lv_aload_n hx hb dL_law_391 rfl (lv_at hl 1 rfl) ?_
  refine lv_aload_n hx hb dL_law_392 rfl (lv_at hl 0 rfl) ?_
  refine lv_iload_n hx hb dL_law_393 rfl (lv_at hl 3 rfl) ?_
  refine lv_iconst (v := 1) hx hb dL_law_394 (by decide) ?_
  refine lv_iadd hx hb dL_law_395 ?_
  rw [a1]
  refine va_sld hx hb hX hbl hbA hR.2.2.1 (vp_in_nI (show i + 1 < L by omega) (by omega)) dL_law_396 ?_
  rw [q1]
  refine mm_callG (v := some (.int r)) (f1 := f1) (d0 := 2) (rest := []) [.int (xs (i + 1))] hx hb hml hown hts hl0 hR 0 0 (T_X6_heat G h1) ws_X6_heat lkL_16 hd_X6_heat ⟨by decide, by decide⟩ hcs vl_0 rfl rfl rfl hl.1 rfl (Nat.le_of_ble_eq_true rfl) dL_law_397 (fun H locs hR => ?_)
  refine W.eq (g2 := F0 m 400 ls [.int r]) rfl ?_
  refine lv_aload_n hx hb dL_law_400 rfl (lv_at hl 2 rfl) ?_
  refine lv_aload_n hx hb dL_law_401 rfl (lv_at hl 0 rfl) ?_
  refine lv_iload_n hx hb dL_law_402 rfl (lv_at hl 3 rfl) ?_
  refine lv_iconst (v := 1) hx hb dL_law_403 (by decide) ?_
  refine lv_iadd hx hb dL_law_404 ?_
  rw [a1]
  refine va_sld hx hb hX hbl hbA hR.2.2.1 (vp_in_nI (show i + 1 < L by omega) (by omega)) dL_law_405 ?_
  rw [q1]
  refine mm_callG (v := some (.int r)) (f1 := f2) (d0 := 1) (rest := [.int r]) [.int (xs (i + 1))] hx hb hml hown hts hl0 hR 20 0 (T_X7_heat G h2) ws_X7_heat lkL_17 hd_X7_heat ⟨by decide, by decide⟩ hcs vl_20 rfl rfl rfl hl.1 rfl (Nat.le_of_ble_eq_true rfl) dL_law_406 (fun H locs hR => ?_)
  refine W.eq (g2 := F0 m 409 ls [.int r, .int r]) rfl ?_
  refine lv_icmp_eq (tgt := 1007) hx hb dL_law_409 (by decide) (fun _ => ?_) (fun z => absurd rfl z)
  exact kk f2 H locs hI hR
set_option maxHeartbeats 4000000 in
set_option maxRecDepth 100000 in
theorem law_c8 {p : Program} {l : Launch} {e : Env} {s : State} {m : MethodId} {below : List Frame} {meth : Method} {c : Code} {b L : Nat} {xs : Nat → Int32} {G : mmG} {cells slots : Nat} (hl0 : l = G.1) (C0 : lw_At p s m meth c b L xs) (hn0 : mm_n0 G = s.heap.size) (hcs : cells ≤ 600000 ∧ slots ≤ 7302250) {i : Nat} (hi : i + 4 ≤ L) (hL : L ≤ 2048) {f : F3} {H : Heap} {locs : List Loc} {ls : Array Slot} (hR : mm_R G mm_NT f (GG f) s H locs) (hl : lv_has ls 4 [(0, .ref b), (1, .ref (ra G 0 0)), (2, .ref (ra G 20 0)), (3, .int (nI i))]) {Inv : F3 → Prop} (h : ST Inv (fun f => S_X6_sweep f (xs (i + 1))) (fun f => S_X7_sweep f (xs (i + 1))) f)
    (kk : ∀ (f : F3) (H : Heap) (locs : List Loc), Inv f → mm_R G mm_NT f (GG f) s H locs → W p l e room_1 s m #[Value.ref b] below meth c H locs cells slots (lw_Z below #[Value.ref b] s) (F0 m 1007 ls [])) : W p l e room_1 s m #[Value.ref b] below meth c H locs cells slots (lw_Z below #[Value.ref b] s) (F0 m 414 ls []) := by
  obtain ⟨hx, hb, hr, hml, hown, hts0, hX, hbl, hlocks, hgv⟩ := id C0
  have hts : ∀ w ∈ BIG, w.before #[Value.ref b] s = true := fun w hw => hts0 w (List.mem_filter.mp hw).1
  have hown : s.vm.findClass RL = some m.cls := hown
  have hbA : ¬ mm_A G b := by
    unfold mm_A
    omega
  have a1 : nI i + 1 = nI (i + 1) := nI_1 i
  have a2 : nI i + 2 = nI (i + 2) := nI_add i 2
  have a3 : nI i + 3 = nI (i + 3) := nI_add i 3
  have q1 : (nI (i + 1)).toNatClampNeg = i + 1 := nI_clamp (by omega)
  have q2 : (nI (i + 2)).toNatClampNeg = i + 2 := nI_clamp (by omega)
  have q3 : (nI (i + 3)).toNatClampNeg = i + 3 := nI_clamp (by omega)
  obtain ⟨r, f1, f2, h1, h2, hI⟩ := h
  refine lv_aload_n hx hb dL_law_414 rfl (lv_at hl 1 rfl) ?_
  refine lv_aload_n hx hb dL_law_415 rfl (lv_at hl 0 rfl) ?_
  refine lv_iload_n hx hb dL_law_416 rfl (lv_at hl 3 rfl) ?_
  refine lv_iconst (v := 1) hx hb dL_law_417 (by decide) ?_
  refine lv_iadd hx hb dL_law_418 ?_
  rw [a1]
  refine va_sld hx hb hX hbl hbA hR.2.2.1 (vp_in_nI (show i + 1 < L by omega) (by omega)) dL_law_419 ?_
  rw [q1]
  refine mm_callG (v := some (.int r)) (f1 := f1) (d0 := 2) (rest := []) [.int (xs (i + 1))] hx hb hml hown hts hl0 hR 0 0 (T_X6_sweep G h1) ws_X6_sweep lkL_18 hd_X6_sweep ⟨by decide, by decide⟩ hcs vl_0 rfl rfl rfl hl.1 rfl (Nat.le_of_ble_eq_true rfl) dL_law_420 (fun H locs hR => ?_)
  refine W.eq (g2 := F0 m 423 ls [.int r]) rfl ?_
  refine lv_aload_n hx hb dL_law_423 rfl (lv_at hl 2 rfl) ?_
  refine lv_aload_n hx hb dL_law_424 rfl (lv_at hl 0 rfl) ?_
  refine lv_iload_n hx hb dL_law_425 rfl (lv_at hl 3 rfl) ?_
  refine lv_iconst (v := 1) hx hb dL_law_426 (by decide) ?_
  refine lv_iadd hx hb dL_law_427 ?_
  rw [a1]
  refine va_sld hx hb hX hbl hbA hR.2.2.1 (vp_in_nI (show i + 1 < L by omega) (by omega)) dL_law_428 ?_
  rw [q1]
  refine mm_callG (v := some (.int r)) (f1 := f2) (d0 := 2) (rest := [.int r]) [.int (xs (i + 1))] hx hb hml hown hts hl0 hR 20 0 (T_X7_sweep G h2) ws_X7_sweep lkL_19 hd_X7_sweep ⟨by decide, by decide⟩ hcs vl_20 rfl rfl rfl hl.1 rfl (Nat.le_of_ble_eq_true rfl) dL_law_429 (fun H locs hR => ?_)
  refine W.eq (g2 := F0 m 432 ls [.int r, .int r]) rfl ?_
  refine lv_icmp_eq (tgt := 1007) hx hb dL_law_432 (by decide) (fun _ => ?_) (fun z => absurd rfl z)
  exact kk f2 H locs hI hR
set_option maxHeartbeats 4000000 in
set_option maxRecDepth 100000 in
theorem law_c9 {p : Program} {l : Launch} {e : Env} {s : State} {m : MethodId} {below : List Frame} {meth : Method} {c : Code} {b L : Nat} {xs : Nat → Int32} {G : mmG} {cells slots : Nat} (hl0 : l = G.1) (C0 : lw_At p s m meth c b L xs) (hn0 : mm_n0 G = s.heap.size) (hcs : cells ≤ 600000 ∧ slots ≤ 7302250) {i : Nat} (hi : i + 4 ≤ L) (hL : L ≤ 2048) {f : F3} {H : Heap} {locs : List Loc} {ls : Array Slot} (hR : mm_R G mm_NT f (GG f) s H locs) (hl : lv_has ls 4 [(0, .ref b), (1, .ref (ra G 0 0)), (2, .ref (ra G 20 0)), (3, .int (nI i))]) {Inv : F3 → Prop} (h : ST Inv (fun f => S_X6_flood f (xs (i + 1))) (fun f => S_X7_flood f (xs (i + 1))) f)
    (kk : ∀ (f : F3) (H : Heap) (locs : List Loc), Inv f → mm_R G mm_NT f (GG f) s H locs → W p l e room_1 s m #[Value.ref b] below meth c H locs cells slots (lw_Z below #[Value.ref b] s) (F0 m 1007 ls [])) : W p l e room_1 s m #[Value.ref b] below meth c H locs cells slots (lw_Z below #[Value.ref b] s) (F0 m 437 ls []) := by
  obtain ⟨hx, hb, hr, hml, hown, hts0, hX, hbl, hlocks, hgv⟩ := id C0
  have hts : ∀ w ∈ BIG, w.before #[Value.ref b] s = true := fun w hw => hts0 w (List.mem_filter.mp hw).1
  have hown : s.vm.findClass RL = some m.cls := hown
  have hbA : ¬ mm_A G b := by
    unfold mm_A
    omega
  have a1 : nI i + 1 = nI (i + 1) := nI_1 i
  have a2 : nI i + 2 = nI (i + 2) := nI_add i 2
  have a3 : nI i + 3 = nI (i + 3) := nI_add i 3
  have q1 : (nI (i + 1)).toNatClampNeg = i + 1 := nI_clamp (by omega)
  have q2 : (nI (i + 2)).toNatClampNeg = i + 2 := nI_clamp (by omega)
  have q3 : (nI (i + 3)).toNatClampNeg = i + 3 := nI_clamp (by omega)
  obtain ⟨r, f1, f2, h1, h2, hI⟩ := h
  refine lv_aload_n hx hb dL_law_437 rfl (lv_at hl 1 rfl) ?_
  refine lv_aload_n hx hb dL_law_438 rfl (lv_at hl 0 rfl) ?_
  refine lv_iload_n hx hb dL_law_439 rfl (lv_at hl 3 rfl) ?_
  refine lv_iconst (v := 1) hx hb dL_law_440 (by decide) ?_
  refine lv_iadd hx hb dL_law_441 ?_
  rw [a1]
  refine va_sld hx hb hX hbl hbA hR.2.2.1 (vp_in_nI (show i + 1 < L by omega) (by omega)) dL_law_442 ?_
  rw [q1]
  refine mm_callG (v := some (.int r)) (f1 := f1) (d0 := 2) (rest := []) [.int (xs (i + 1))] hx hb hml hown hts hl0 hR 0 0 (T_X6_flood G h1) ws_X6_flood lkL_20 hd_X6_flood ⟨by decide, by decide⟩ hcs vl_0 rfl rfl rfl hl.1 rfl (Nat.le_of_ble_eq_true rfl) dL_law_443 (fun H locs hR => ?_)
  refine W.eq (g2 := F0 m 446 ls [.int r]) rfl ?_
  refine lv_aload_n hx hb dL_law_446 rfl (lv_at hl 2 rfl) ?_
  refine lv_aload_n hx hb dL_law_447 rfl (lv_at hl 0 rfl) ?_
  refine lv_iload_n hx hb dL_law_448 rfl (lv_at hl 3 rfl) ?_
  refine lv_iconst (v := 1) hx hb dL_law_449 (by decide) ?_
  refine lv_iadd hx hb dL_law_450 ?_
  rw [a1]
  refine va_sld hx hb hX hbl hbA hR.2.2.1 (vp_in_nI (show i + 1 < L by omega) (by omega)) dL_law_451 ?_
  rw [q1]
  refine mm_callG (v := some (.int r)) (f1 := f2) (d0 := 2) (rest := [.int r]) [.int (xs (i + 1))] hx hb hml hown hts hl0 hR 20 0 (T_X7_flood G h2) ws_X7_flood lkL_21 hd_X7_flood ⟨by decide, by decide⟩ hcs vl_20 rfl rfl rfl hl.1 rfl (Nat.le_of_ble_eq_true rfl) dL_law_452 (fun H locs hR => ?_)
  refine W.eq (g2 := F0 m 455 ls [.int r, .int r]) rfl ?_
  refine lv_icmp_eq (tgt := 1007) hx hb dL_law_455 (by decide) (fun _ => ?_) (fun z => absurd rfl z)
  exact kk f2 H locs hI hR
set_option maxHeartbeats 4000000 in
set_option maxRecDepth 100000 in
theorem law_c10 {p : Program} {l : Launch} {e : Env} {s : State} {m : MethodId} {below : List Frame} {meth : Method} {c : Code} {b L : Nat} {xs : Nat → Int32} {G : mmG} {cells slots : Nat} (hl0 : l = G.1) (C0 : lw_At p s m meth c b L xs) (hn0 : mm_n0 G = s.heap.size) (hcs : cells ≤ 600000 ∧ slots ≤ 7302250) {i : Nat} (hi : i + 4 ≤ L) (hL : L ≤ 2048) {f : F3} {H : Heap} {locs : List Loc} {ls : Array Slot} (hR : mm_R G mm_NT f (GG f) s H locs) (hl : lv_has ls 4 [(0, .ref b), (1, .ref (ra G 0 0)), (2, .ref (ra G 20 0)), (3, .int (nI i))]) {Inv : F3 → Prop} (h : ST Inv (fun f => S_X6_bypass f (xs (i + 1))) (fun f => S_X7_bypass f (xs (i + 1))) f)
    (kk : ∀ (f : F3) (H : Heap) (locs : List Loc), Inv f → mm_R G mm_NT f (GG f) s H locs → W p l e room_1 s m #[Value.ref b] below meth c H locs cells slots (lw_Z below #[Value.ref b] s) (F0 m 1007 ls [])) : W p l e room_1 s m #[Value.ref b] below meth c H locs cells slots (lw_Z below #[Value.ref b] s) (F0 m 460 ls []) := by
  obtain ⟨hx, hb, hr, hml, hown, hts0, hX, hbl, hlocks, hgv⟩ := id C0
  have hts : ∀ w ∈ BIG, w.before #[Value.ref b] s = true := fun w hw => hts0 w (List.mem_filter.mp hw).1
  have hown : s.vm.findClass RL = some m.cls := hown
  have hbA : ¬ mm_A G b := by
    unfold mm_A
    omega
  have a1 : nI i + 1 = nI (i + 1) := nI_1 i
  have a2 : nI i + 2 = nI (i + 2) := nI_add i 2
  have a3 : nI i + 3 = nI (i + 3) := nI_add i 3
  have q1 : (nI (i + 1)).toNatClampNeg = i + 1 := nI_clamp (by omega)
  have q2 : (nI (i + 2)).toNatClampNeg = i + 2 := nI_clamp (by omega)
  have q3 : (nI (i + 3)).toNatClampNeg = i + 3 := nI_clamp (by omega)
  obtain ⟨r, f1, f2, h1, h2, hI⟩ := h
  refine lv_aload_n hx hb dL_law_460 rfl (lv_at hl 1 rfl) ?_
  refine lv_aload_n hx hb dL_law_461 rfl (lv_at hl 0 rfl) ?_
  refine lv_iload_n hx hb dL_law_462 rfl (lv_at hl 3 rfl) ?_
  refine lv_iconst (v := 1) hx hb dL_law_463 (by decide) ?_
  refine lv_iadd hx hb dL_law_464 ?_
  rw [a1]
  refine va_sld hx hb hX hbl hbA hR.2.2.1 (vp_in_nI (show i + 1 < L by omega) (by omega)) dL_law_465 ?_
  rw [q1]
  refine mm_callG (v := some (.int r)) (f1 := f1) (d0 := 2) (rest := []) [.int (xs (i + 1))] hx hb hml hown hts hl0 hR 0 0 (T_X6_bypass G h1) ws_X6_bypass lkL_22 hd_X6_bypass ⟨by decide, by decide⟩ hcs vl_0 rfl rfl rfl hl.1 rfl (Nat.le_of_ble_eq_true rfl) dL_law_466 (fun H locs hR => ?_)
  refine W.eq (g2 := F0 m 469 ls [.int r]) rfl ?_
  refine lv_aload_n hx hb dL_law_469 rfl (lv_at hl 2 rfl) ?_
  refine lv_aload_n hx hb dL_law_470 rfl (lv_at hl 0 rfl) ?_
  refine lv_iload_n hx hb dL_law_471 rfl (lv_at hl 3 rfl) ?_
  refine lv_iconst (v := 1) hx hb dL_law_472 (by decide) ?_
  refine lv_iadd hx hb dL_law_473 ?_
  rw [a1]
  refine va_sld hx hb hX hbl hbA hR.2.2.1 (vp_in_nI (show i + 1 < L by omega) (by omega)) dL_law_474 ?_
  rw [q1]
  refine mm_callG (v := some (.int r)) (f1 := f2) (d0 := 2) (rest := [.int r]) [.int (xs (i + 1))] hx hb hml hown hts hl0 hR 20 0 (T_X7_bypass G h2) ws_X7_bypass lkL_23 hd_X7_bypass ⟨by decide, by decide⟩ hcs vl_20 rfl rfl rfl hl.1 rfl (Nat.le_of_ble_eq_true rfl) dL_law_475 (fun H locs hR => ?_)
  refine W.eq (g2 := F0 m 478 ls [.int r, .int r]) rfl ?_
  refine lv_icmp_eq (tgt := 1007) hx hb dL_law_478 (by decide) (fun _ => ?_) (fun z => absurd rfl z)
  exact kk f2 H locs hI hR
set_option maxHeartbeats 4000000 in
set_option maxRecDepth 100000 in
theorem law_c11 {p : Program} {l : Launch} {e : Env} {s : State} {m : MethodId} {below : List Frame} {meth : Method} {c : Code} {b L : Nat} {xs : Nat → Int32} {G : mmG} {cells slots : Nat} (hl0 : l = G.1) (C0 : lw_At p s m meth c b L xs) (hn0 : mm_n0 G = s.heap.size) (hcs : cells ≤ 600000 ∧ slots ≤ 7302250) {i : Nat} (hi : i + 4 ≤ L) (hL : L ≤ 2048) {f : F3} {H : Heap} {locs : List Loc} {ls : Array Slot} (hR : mm_R G mm_NT f (GG f) s H locs) (hl : lv_has ls 4 [(0, .ref b), (1, .ref (ra G 0 0)), (2, .ref (ra G 20 0)), (3, .int (nI i))]) {Inv : F3 → Prop} (h : ST Inv (fun f => S_X6_snow f (xs (i + 1))) (fun f => S_X7_snow f (xs (i + 1))) f)
    (kk : ∀ (f : F3) (H : Heap) (locs : List Loc), Inv f → mm_R G mm_NT f (GG f) s H locs → W p l e room_1 s m #[Value.ref b] below meth c H locs cells slots (lw_Z below #[Value.ref b] s) (F0 m 1007 ls [])) : W p l e room_1 s m #[Value.ref b] below meth c H locs cells slots (lw_Z below #[Value.ref b] s) (F0 m 483 ls []) := by
  obtain ⟨hx, hb, hr, hml, hown, hts0, hX, hbl, hlocks, hgv⟩ := id C0
  have hts : ∀ w ∈ BIG, w.before #[Value.ref b] s = true := fun w hw => hts0 w (List.mem_filter.mp hw).1
  have hown : s.vm.findClass RL = some m.cls := hown
  have hbA : ¬ mm_A G b := by
    unfold mm_A
    omega
  have a1 : nI i + 1 = nI (i + 1) := nI_1 i
  have a2 : nI i + 2 = nI (i + 2) := nI_add i 2
  have a3 : nI i + 3 = nI (i + 3) := nI_add i 3
  have q1 : (nI (i + 1)).toNatClampNeg = i + 1 := nI_clamp (by omega)
  have q2 : (nI (i + 2)).toNatClampNeg = i + 2 := nI_clamp (by omega)
  have q3 : (nI (i + 3)).toNatClampNeg = i + 3 := nI_clamp (by omega)
  obtain ⟨r, f1, f2, h1, h2, hI⟩ := h
  refine lv_aload_n hx hb dL_law_483 rfl (lv_at hl 1 rfl) ?_
  refine lv_aload_n hx hb dL_law_484 rfl (lv_at hl 0 rfl) ?_
  refine lv_iload_n hx hb dL_law_485 rfl (lv_at hl 3 rfl) ?_
  refine lv_iconst (v := 1) hx hb dL_law_486 (by decide) ?_
  refine lv_iadd hx hb dL_law_487 ?_
  rw [a1]
  refine va_sld hx hb hX hbl hbA hR.2.2.1 (vp_in_nI (show i + 1 < L by omega) (by omega)) dL_law_488 ?_
  rw [q1]
  refine mm_callG (v := some (.int r)) (f1 := f1) (d0 := 2) (rest := []) [.int (xs (i + 1))] hx hb hml hown hts hl0 hR 0 0 (T_X6_snow G h1) ws_X6_snow lkL_24 hd_X6_snow ⟨by decide, by decide⟩ hcs vl_0 rfl rfl rfl hl.1 rfl (Nat.le_of_ble_eq_true rfl) dL_law_489 (fun H locs hR => ?_)
  refine W.eq (g2 := F0 m 492 ls [.int r]) rfl ?_
  refine lv_aload_n hx hb dL_law_492 rfl (lv_at hl 2 rfl) ?_
  refine lv_aload_n hx hb dL_law_493 rfl (lv_at hl 0 rfl) ?_
  refine lv_iload_n hx hb dL_law_494 rfl (lv_at hl 3 rfl) ?_
  refine lv_iconst (v := 1) hx hb dL_law_495 (by decide) ?_
  refine lv_iadd hx hb dL_law_496 ?_
  rw [a1]
  refine va_sld hx hb hX hbl hbA hR.2.2.1 (vp_in_nI (show i + 1 < L by omega) (by omega)) dL_law_497 ?_
  rw [q1]
  refine mm_callG (v := some (.int r)) (f1 := f2) (d0 := 1) (rest := [.int r]) [.int (xs (i + 1))] hx hb hml hown hts hl0 hR 20 0 (T_X7_snow G h2) ws_X7_snow lkL_25 hd_X7_snow ⟨by decide, by decide⟩ hcs vl_20 rfl rfl rfl hl.1 rfl (Nat.le_of_ble_eq_true rfl) dL_law_498 (fun H locs hR => ?_)
  refine W.eq (g2 := F0 m 501 ls [.int r, .int r]) rfl ?_
  refine lv_icmp_eq (tgt := 1007) hx hb dL_law_501 (by decide) (fun _ => ?_) (fun z => absurd rfl z)
  exact kk f2 H locs hI hR
set_option maxHeartbeats 4000000 in
set_option maxRecDepth 100000 in
theorem law_c12 {p : Program} {l : Launch} {e : Env} {s : State} {m : MethodId} {below : List Frame} {meth : Method} {c : Code} {b L : Nat} {xs : Nat → Int32} {G : mmG} {cells slots : Nat} (hl0 : l = G.1) (C0 : lw_At p s m meth c b L xs) (hn0 : mm_n0 G = s.heap.size) (hcs : cells ≤ 600000 ∧ slots ≤ 7302250) {i : Nat} (hi : i + 4 ≤ L) (hL : L ≤ 2048) {f : F3} {H : Heap} {locs : List Loc} {ls : Array Slot} (hR : mm_R G mm_NT f (GG f) s H locs) (hl : lv_has ls 4 [(0, .ref b), (1, .ref (ra G 0 0)), (2, .ref (ra G 20 0)), (3, .int (nI i))]) {Inv : F3 → Prop} (h : ST Inv (fun f => S_X6_load f (xs (i + 1)) (xs (i + 2)) (xs (i + 3))) (fun f => S_X7_load f (xs (i + 1)) (xs (i + 2)) (xs (i + 3))) f)
    (kk : ∀ (f : F3) (H : Heap) (locs : List Loc), Inv f → mm_R G mm_NT f (GG f) s H locs → W p l e room_1 s m #[Value.ref b] below meth c H locs cells slots (lw_Z below #[Value.ref b] s) (F0 m 1007 ls [])) : W p l e room_1 s m #[Value.ref b] below meth c H locs cells slots (lw_Z below #[Value.ref b] s) (F0 m 506 ls []) := by
  obtain ⟨hx, hb, hr, hml, hown, hts0, hX, hbl, hlocks, hgv⟩ := id C0
  have hts : ∀ w ∈ BIG, w.before #[Value.ref b] s = true := fun w hw => hts0 w (List.mem_filter.mp hw).1
  have hown : s.vm.findClass RL = some m.cls := hown
  have hbA : ¬ mm_A G b := by
    unfold mm_A
    omega
  have a1 : nI i + 1 = nI (i + 1) := nI_1 i
  have a2 : nI i + 2 = nI (i + 2) := nI_add i 2
  have a3 : nI i + 3 = nI (i + 3) := nI_add i 3
  have q1 : (nI (i + 1)).toNatClampNeg = i + 1 := nI_clamp (by omega)
  have q2 : (nI (i + 2)).toNatClampNeg = i + 2 := nI_clamp (by omega)
  have q3 : (nI (i + 3)).toNatClampNeg = i + 3 := nI_clamp (by omega)
  obtain ⟨r, f1, f2, h1, h2, hI⟩ := h
  refine lv_aload_n hx hb dL_law_506 rfl (lv_at hl 1 rfl) ?_
  refine lv_aload_n hx hb dL_law_507 rfl (lv_at hl 0 rfl) ?_
  refine lv_iload_n hx hb dL_law_508 rfl (lv_at hl 3 rfl) ?_
  refine lv_iconst (v := 1) hx hb dL_law_509 (by decide) ?_
  refine lv_iadd hx hb dL_law_510 ?_
  rw [a1]
  refine va_sld hx hb hX hbl hbA hR.2.2.1 (vp_in_nI (show i + 1 < L by omega) (by omega)) dL_law_511 ?_
  rw [q1]
  refine lv_aload_n hx hb dL_law_512 rfl (lv_at hl 0 rfl) ?_
  refine lv_iload_n hx hb dL_law_513 rfl (lv_at hl 3 rfl) ?_
  refine lv_iconst (v := 2) hx hb dL_law_514 (by decide) ?_
  refine lv_iadd hx hb dL_law_515 ?_
  rw [a2]
  refine va_sld hx hb hX hbl hbA hR.2.2.1 (vp_in_nI (show i + 2 < L by omega) (by omega)) dL_law_516 ?_
  rw [q2]
  refine lv_aload_n hx hb dL_law_517 rfl (lv_at hl 0 rfl) ?_
  refine lv_iload_n hx hb dL_law_518 rfl (lv_at hl 3 rfl) ?_
  refine lv_iconst (v := 3) hx hb dL_law_519 (by decide) ?_
  refine lv_iadd hx hb dL_law_520 ?_
  rw [a3]
  refine va_sld hx hb hX hbl hbA hR.2.2.1 (vp_in_nI (show i + 3 < L by omega) (by omega)) dL_law_521 ?_
  rw [q3]
  refine mm_callG (v := some (.int r)) (f1 := f1) (d0 := 2) (rest := []) [.int (xs (i + 1)), .int (xs (i + 2)), .int (xs (i + 3))] hx hb hml hown hts hl0 hR 0 0 (T_X6_load G h1) ws_X6_load lkL_26 hd_X6_load ⟨by decide, by decide⟩ hcs vl_0 rfl rfl rfl hl.1 rfl (Nat.le_of_ble_eq_true rfl) dL_law_522 (fun H locs hR => ?_)
  refine W.eq (g2 := F0 m 525 ls [.int r]) rfl ?_
  refine lv_aload_n hx hb dL_law_525 rfl (lv_at hl 2 rfl) ?_
  refine lv_aload_n hx hb dL_law_526 rfl (lv_at hl 0 rfl) ?_
  refine lv_iload_n hx hb dL_law_527 rfl (lv_at hl 3 rfl) ?_
  refine lv_iconst (v := 1) hx hb dL_law_528 (by decide) ?_
  refine lv_iadd hx hb dL_law_529 ?_
  rw [a1]
  refine va_sld hx hb hX hbl hbA hR.2.2.1 (vp_in_nI (show i + 1 < L by omega) (by omega)) dL_law_530 ?_
  rw [q1]
  refine lv_aload_n hx hb dL_law_531 rfl (lv_at hl 0 rfl) ?_
  refine lv_iload_n hx hb dL_law_532 rfl (lv_at hl 3 rfl) ?_
  refine lv_iconst (v := 2) hx hb dL_law_533 (by decide) ?_
  refine lv_iadd hx hb dL_law_534 ?_
  rw [a2]
  refine va_sld hx hb hX hbl hbA hR.2.2.1 (vp_in_nI (show i + 2 < L by omega) (by omega)) dL_law_535 ?_
  rw [q2]
  refine lv_aload_n hx hb dL_law_536 rfl (lv_at hl 0 rfl) ?_
  refine lv_iload_n hx hb dL_law_537 rfl (lv_at hl 3 rfl) ?_
  refine lv_iconst (v := 3) hx hb dL_law_538 (by decide) ?_
  refine lv_iadd hx hb dL_law_539 ?_
  rw [a3]
  refine va_sld hx hb hX hbl hbA hR.2.2.1 (vp_in_nI (show i + 3 < L by omega) (by omega)) dL_law_540 ?_
  rw [q3]
  refine mm_callG (v := some (.int r)) (f1 := f2) (d0 := 1) (rest := [.int r]) [.int (xs (i + 1)), .int (xs (i + 2)), .int (xs (i + 3))] hx hb hml hown hts hl0 hR 20 0 (T_X7_load G h2) ws_X7_load lkL_27 hd_X7_load ⟨by decide, by decide⟩ hcs vl_20 rfl rfl rfl hl.1 rfl (Nat.le_of_ble_eq_true rfl) dL_law_541 (fun H locs hR => ?_)
  refine W.eq (g2 := F0 m 544 ls [.int r, .int r]) rfl ?_
  refine lv_icmp_eq (tgt := 1007) hx hb dL_law_544 (by decide) (fun _ => ?_) (fun z => absurd rfl z)
  exact kk f2 H locs hI hR
set_option maxHeartbeats 4000000 in
set_option maxRecDepth 100000 in
theorem law_c13 {p : Program} {l : Launch} {e : Env} {s : State} {m : MethodId} {below : List Frame} {meth : Method} {c : Code} {b L : Nat} {xs : Nat → Int32} {G : mmG} {cells slots : Nat} (hl0 : l = G.1) (C0 : lw_At p s m meth c b L xs) (hn0 : mm_n0 G = s.heap.size) (hcs : cells ≤ 600000 ∧ slots ≤ 7302250) {i : Nat} (hi : i + 4 ≤ L) (hL : L ≤ 2048) {f : F3} {H : Heap} {locs : List Loc} {ls : Array Slot} (hR : mm_R G mm_NT f (GG f) s H locs) (hl : lv_has ls 4 [(0, .ref b), (1, .ref (ra G 0 0)), (2, .ref (ra G 20 0)), (3, .int (nI i))]) {Inv : F3 → Prop} (h : ST Inv (fun f => S_X6_of f (xs (i + 1)) (xs (i + 2))) (fun f => S_X7_of f (xs (i + 1)) (xs (i + 2))) f)
    (kk : ∀ (f : F3) (H : Heap) (locs : List Loc), Inv f → mm_R G mm_NT f (GG f) s H locs → W p l e room_1 s m #[Value.ref b] below meth c H locs cells slots (lw_Z below #[Value.ref b] s) (F0 m 1007 ls [])) : W p l e room_1 s m #[Value.ref b] below meth c H locs cells slots (lw_Z below #[Value.ref b] s) (F0 m 549 ls []) := by
  obtain ⟨hx, hb, hr, hml, hown, hts0, hX, hbl, hlocks, hgv⟩ := id C0
  have hts : ∀ w ∈ BIG, w.before #[Value.ref b] s = true := fun w hw => hts0 w (List.mem_filter.mp hw).1
  have hown : s.vm.findClass RL = some m.cls := hown
  have hbA : ¬ mm_A G b := by
    unfold mm_A
    omega
  have a1 : nI i + 1 = nI (i + 1) := nI_1 i
  have a2 : nI i + 2 = nI (i + 2) := nI_add i 2
  have a3 : nI i + 3 = nI (i + 3) := nI_add i 3
  have q1 : (nI (i + 1)).toNatClampNeg = i + 1 := nI_clamp (by omega)
  have q2 : (nI (i + 2)).toNatClampNeg = i + 2 := nI_clamp (by omega)
  have q3 : (nI (i + 3)).toNatClampNeg = i + 3 := nI_clamp (by omega)
  obtain ⟨r, f1, f2, h1, h2, hI⟩ := h
  refine lv_aload_n hx hb dL_law_549 rfl (lv_at hl 1 rfl) ?_
  refine lv_aload_n hx hb dL_law_550 rfl (lv_at hl 0 rfl) ?_
  refine lv_iload_n hx hb dL_law_551 rfl (lv_at hl 3 rfl) ?_
  refine lv_iconst (v := 1) hx hb dL_law_552 (by decide) ?_
  refine lv_iadd hx hb dL_law_553 ?_
  rw [a1]
  refine va_sld hx hb hX hbl hbA hR.2.2.1 (vp_in_nI (show i + 1 < L by omega) (by omega)) dL_law_554 ?_
  rw [q1]
  refine lv_aload_n hx hb dL_law_555 rfl (lv_at hl 0 rfl) ?_
  refine lv_iload_n hx hb dL_law_556 rfl (lv_at hl 3 rfl) ?_
  refine lv_iconst (v := 2) hx hb dL_law_557 (by decide) ?_
  refine lv_iadd hx hb dL_law_558 ?_
  rw [a2]
  refine va_sld hx hb hX hbl hbA hR.2.2.1 (vp_in_nI (show i + 2 < L by omega) (by omega)) dL_law_559 ?_
  rw [q2]
  refine mm_callG (v := some (.int r)) (f1 := f1) (d0 := 2) (rest := []) [.int (xs (i + 1)), .int (xs (i + 2))] hx hb hml hown hts hl0 hR 0 0 (T_X6_of G h1) ws_X6_of lkL_28 hd_X6_of ⟨by decide, by decide⟩ hcs vl_0 rfl rfl rfl hl.1 rfl (Nat.le_of_ble_eq_true rfl) dL_law_560 (fun H locs hR => ?_)
  refine W.eq (g2 := F0 m 563 ls [.int r]) rfl ?_
  refine lv_aload_n hx hb dL_law_563 rfl (lv_at hl 2 rfl) ?_
  refine lv_aload_n hx hb dL_law_564 rfl (lv_at hl 0 rfl) ?_
  refine lv_iload_n hx hb dL_law_565 rfl (lv_at hl 3 rfl) ?_
  refine lv_iconst (v := 1) hx hb dL_law_566 (by decide) ?_
  refine lv_iadd hx hb dL_law_567 ?_
  rw [a1]
  refine va_sld hx hb hX hbl hbA hR.2.2.1 (vp_in_nI (show i + 1 < L by omega) (by omega)) dL_law_568 ?_
  rw [q1]
  refine lv_aload_n hx hb dL_law_569 rfl (lv_at hl 0 rfl) ?_
  refine lv_iload_n hx hb dL_law_570 rfl (lv_at hl 3 rfl) ?_
  refine lv_iconst (v := 2) hx hb dL_law_571 (by decide) ?_
  refine lv_iadd hx hb dL_law_572 ?_
  rw [a2]
  refine va_sld hx hb hX hbl hbA hR.2.2.1 (vp_in_nI (show i + 2 < L by omega) (by omega)) dL_law_573 ?_
  rw [q2]
  refine mm_callG (v := some (.int r)) (f1 := f2) (d0 := 2) (rest := [.int r]) [.int (xs (i + 1)), .int (xs (i + 2))] hx hb hml hown hts hl0 hR 20 0 (T_X7_of G h2) ws_X7_of lkL_29 hd_X7_of ⟨by decide, by decide⟩ hcs vl_20 rfl rfl rfl hl.1 rfl (Nat.le_of_ble_eq_true rfl) dL_law_574 (fun H locs hR => ?_)
  refine W.eq (g2 := F0 m 577 ls [.int r, .int r]) rfl ?_
  refine lv_icmp_eq (tgt := 1007) hx hb dL_law_577 (by decide) (fun _ => ?_) (fun z => absurd rfl z)
  exact kk f2 H locs hI hR
set_option maxHeartbeats 4000000 in
set_option maxRecDepth 100000 in
theorem law_c14 {p : Program} {l : Launch} {e : Env} {s : State} {m : MethodId} {below : List Frame} {meth : Method} {c : Code} {b L : Nat} {xs : Nat → Int32} {G : mmG} {cells slots : Nat} (hl0 : l = G.1) (C0 : lw_At p s m meth c b L xs) (hn0 : mm_n0 G = s.heap.size) (hcs : cells ≤ 600000 ∧ slots ≤ 7302250) {i : Nat} (hi : i + 4 ≤ L) (hL : L ≤ 2048) {f : F3} {H : Heap} {locs : List Loc} {ls : Array Slot} (hR : mm_R G mm_NT f (GG f) s H locs) (hl : lv_has ls 4 [(0, .ref b), (1, .ref (ra G 0 0)), (2, .ref (ra G 20 0)), (3, .int (nI i))]) {Inv : F3 → Prop} (h : ST Inv (fun f => S_X6_may f (xs (i + 1)) (xs (i + 2))) (fun f => S_X7_may f (xs (i + 1)) (xs (i + 2))) f)
    (kk : ∀ (f : F3) (H : Heap) (locs : List Loc), Inv f → mm_R G mm_NT f (GG f) s H locs → W p l e room_1 s m #[Value.ref b] below meth c H locs cells slots (lw_Z below #[Value.ref b] s) (F0 m 1007 ls [])) : W p l e room_1 s m #[Value.ref b] below meth c H locs cells slots (lw_Z below #[Value.ref b] s) (F0 m 582 ls []) := by
  obtain ⟨hx, hb, hr, hml, hown, hts0, hX, hbl, hlocks, hgv⟩ := id C0
  have hts : ∀ w ∈ BIG, w.before #[Value.ref b] s = true := fun w hw => hts0 w (List.mem_filter.mp hw).1
  have hown : s.vm.findClass RL = some m.cls := hown
  have hbA : ¬ mm_A G b := by
    unfold mm_A
    omega
  have a1 : nI i + 1 = nI (i + 1) := nI_1 i
  have a2 : nI i + 2 = nI (i + 2) := nI_add i 2
  have a3 : nI i + 3 = nI (i + 3) := nI_add i 3
  have q1 : (nI (i + 1)).toNatClampNeg = i + 1 := nI_clamp (by omega)
  have q2 : (nI (i + 2)).toNatClampNeg = i + 2 := nI_clamp (by omega)
  have q3 : (nI (i + 3)).toNatClampNeg = i + 3 := nI_clamp (by omega)
  obtain ⟨r, f1, f2, h1, h2, hI⟩ := h
  refine lv_aload_n hx hb dL_law_582 rfl (lv_at hl 1 rfl) ?_
  refine lv_aload_n hx hb dL_law_583 rfl (lv_at hl 0 rfl) ?_
  refine lv_iload_n hx hb dL_law_584 rfl (lv_at hl 3 rfl) ?_
  refine lv_iconst (v := 1) hx hb dL_law_585 (by decide) ?_
  refine lv_iadd hx hb dL_law_586 ?_
  rw [a1]
  refine va_sld hx hb hX hbl hbA hR.2.2.1 (vp_in_nI (show i + 1 < L by omega) (by omega)) dL_law_587 ?_
  rw [q1]
  refine lv_aload_n hx hb dL_law_588 rfl (lv_at hl 0 rfl) ?_
  refine lv_iload_n hx hb dL_law_589 rfl (lv_at hl 3 rfl) ?_
  refine lv_iconst (v := 2) hx hb dL_law_590 (by decide) ?_
  refine lv_iadd hx hb dL_law_591 ?_
  rw [a2]
  refine va_sld hx hb hX hbl hbA hR.2.2.1 (vp_in_nI (show i + 2 < L by omega) (by omega)) dL_law_592 ?_
  rw [q2]
  refine mm_callG (v := some (.int r)) (f1 := f1) (d0 := 4) (rest := []) [.int (xs (i + 1)), .int (xs (i + 2))] hx hb hml hown hts hl0 hR 0 0 (T_X6_may G h1) ws_X6_may lkL_30 hd_X6_may ⟨by decide, by decide⟩ hcs vl_0 rfl rfl rfl hl.1 rfl (Nat.le_of_ble_eq_true rfl) dL_law_593 (fun H locs hR => ?_)
  refine W.eq (g2 := F0 m 596 ls [.int r]) rfl ?_
  refine lv_aload_n hx hb dL_law_596 rfl (lv_at hl 2 rfl) ?_
  refine lv_aload_n hx hb dL_law_597 rfl (lv_at hl 0 rfl) ?_
  refine lv_iload_n hx hb dL_law_598 rfl (lv_at hl 3 rfl) ?_
  refine lv_iconst (v := 1) hx hb dL_law_599 (by decide) ?_
  refine lv_iadd hx hb dL_law_600 ?_
  rw [a1]
  refine va_sld hx hb hX hbl hbA hR.2.2.1 (vp_in_nI (show i + 1 < L by omega) (by omega)) dL_law_601 ?_
  rw [q1]
  refine lv_aload_n hx hb dL_law_602 rfl (lv_at hl 0 rfl) ?_
  refine lv_iload_n hx hb dL_law_603 rfl (lv_at hl 3 rfl) ?_
  refine lv_iconst (v := 2) hx hb dL_law_604 (by decide) ?_
  refine lv_iadd hx hb dL_law_605 ?_
  rw [a2]
  refine va_sld hx hb hX hbl hbA hR.2.2.1 (vp_in_nI (show i + 2 < L by omega) (by omega)) dL_law_606 ?_
  rw [q2]
  refine mm_callG (v := some (.int r)) (f1 := f2) (d0 := 5) (rest := [.int r]) [.int (xs (i + 1)), .int (xs (i + 2))] hx hb hml hown hts hl0 hR 20 0 (T_X7_may G h2) ws_X7_may lkL_31 hd_X7_may ⟨by decide, by decide⟩ hcs vl_20 rfl rfl rfl hl.1 rfl (Nat.le_of_ble_eq_true rfl) dL_law_607 (fun H locs hR => ?_)
  refine W.eq (g2 := F0 m 610 ls [.int r, .int r]) rfl ?_
  refine lv_icmp_eq (tgt := 1007) hx hb dL_law_610 (by decide) (fun _ => ?_) (fun z => absurd rfl z)
  exact kk f2 H locs hI hR
set_option maxHeartbeats 4000000 in
set_option maxRecDepth 100000 in
theorem law_c15 {p : Program} {l : Launch} {e : Env} {s : State} {m : MethodId} {below : List Frame} {meth : Method} {c : Code} {b L : Nat} {xs : Nat → Int32} {G : mmG} {cells slots : Nat} (hl0 : l = G.1) (C0 : lw_At p s m meth c b L xs) (hn0 : mm_n0 G = s.heap.size) (hcs : cells ≤ 600000 ∧ slots ≤ 7302250) {i : Nat} (hi : i + 4 ≤ L) (hL : L ≤ 2048) {f : F3} {H : Heap} {locs : List Loc} {ls : Array Slot} (hR : mm_R G mm_NT f (GG f) s H locs) (hl : lv_has ls 4 [(0, .ref b), (1, .ref (ra G 0 0)), (2, .ref (ra G 20 0)), (3, .int (nI i))]) {Inv : F3 → Prop} (h : ST Inv (fun f => S_X6_why f (xs (i + 1)) (xs (i + 2))) (fun f => S_X7_why f (xs (i + 1)) (xs (i + 2))) f)
    (kk : ∀ (f : F3) (H : Heap) (locs : List Loc), Inv f → mm_R G mm_NT f (GG f) s H locs → W p l e room_1 s m #[Value.ref b] below meth c H locs cells slots (lw_Z below #[Value.ref b] s) (F0 m 1007 ls [])) : W p l e room_1 s m #[Value.ref b] below meth c H locs cells slots (lw_Z below #[Value.ref b] s) (F0 m 615 ls []) := by
  obtain ⟨hx, hb, hr, hml, hown, hts0, hX, hbl, hlocks, hgv⟩ := id C0
  have hts : ∀ w ∈ BIG, w.before #[Value.ref b] s = true := fun w hw => hts0 w (List.mem_filter.mp hw).1
  have hown : s.vm.findClass RL = some m.cls := hown
  have hbA : ¬ mm_A G b := by
    unfold mm_A
    omega
  have a1 : nI i + 1 = nI (i + 1) := nI_1 i
  have a2 : nI i + 2 = nI (i + 2) := nI_add i 2
  have a3 : nI i + 3 = nI (i + 3) := nI_add i 3
  have q1 : (nI (i + 1)).toNatClampNeg = i + 1 := nI_clamp (by omega)
  have q2 : (nI (i + 2)).toNatClampNeg = i + 2 := nI_clamp (by omega)
  have q3 : (nI (i + 3)).toNatClampNeg = i + 3 := nI_clamp (by omega)
  obtain ⟨r, f1, f2, h1, h2, hI⟩ := h
  refine lv_aload_n hx hb dL_law_615 rfl (lv_at hl 1 rfl) ?_
  refine lv_aload_n hx hb dL_law_616 rfl (lv_at hl 0 rfl) ?_
  refine lv_iload_n hx hb dL_law_617 rfl (lv_at hl 3 rfl) ?_
  refine lv_iconst (v := 1) hx hb dL_law_618 (by decide) ?_
  refine lv_iadd hx hb dL_law_619 ?_
  rw [a1]
  refine va_sld hx hb hX hbl hbA hR.2.2.1 (vp_in_nI (show i + 1 < L by omega) (by omega)) dL_law_620 ?_
  rw [q1]
  refine lv_aload_n hx hb dL_law_621 rfl (lv_at hl 0 rfl) ?_
  refine lv_iload_n hx hb dL_law_622 rfl (lv_at hl 3 rfl) ?_
  refine lv_iconst (v := 2) hx hb dL_law_623 (by decide) ?_
  refine lv_iadd hx hb dL_law_624 ?_
  rw [a2]
  refine va_sld hx hb hX hbl hbA hR.2.2.1 (vp_in_nI (show i + 2 < L by omega) (by omega)) dL_law_625 ?_
  rw [q2]
  refine mm_callG (v := some (.int r)) (f1 := f1) (d0 := 4) (rest := []) [.int (xs (i + 1)), .int (xs (i + 2))] hx hb hml hown hts hl0 hR 0 0 (T_X6_why G h1) ws_X6_why lkL_32 hd_X6_why ⟨by decide, by decide⟩ hcs vl_0 rfl rfl rfl hl.1 rfl (Nat.le_of_ble_eq_true rfl) dL_law_626 (fun H locs hR => ?_)
  refine W.eq (g2 := F0 m 629 ls [.int r]) rfl ?_
  refine lv_aload_n hx hb dL_law_629 rfl (lv_at hl 2 rfl) ?_
  refine lv_aload_n hx hb dL_law_630 rfl (lv_at hl 0 rfl) ?_
  refine lv_iload_n hx hb dL_law_631 rfl (lv_at hl 3 rfl) ?_
  refine lv_iconst (v := 1) hx hb dL_law_632 (by decide) ?_
  refine lv_iadd hx hb dL_law_633 ?_
  rw [a1]
  refine va_sld hx hb hX hbl hbA hR.2.2.1 (vp_in_nI (show i + 1 < L by omega) (by omega)) dL_law_634 ?_
  rw [q1]
  refine lv_aload_n hx hb dL_law_635 rfl (lv_at hl 0 rfl) ?_
  refine lv_iload_n hx hb dL_law_636 rfl (lv_at hl 3 rfl) ?_
  refine lv_iconst (v := 2) hx hb dL_law_637 (by decide) ?_
  refine lv_iadd hx hb dL_law_638 ?_
  rw [a2]
  refine va_sld hx hb hX hbl hbA hR.2.2.1 (vp_in_nI (show i + 2 < L by omega) (by omega)) dL_law_639 ?_
  rw [q2]
  refine mm_callG (v := some (.int r)) (f1 := f2) (d0 := 5) (rest := [.int r]) [.int (xs (i + 1)), .int (xs (i + 2))] hx hb hml hown hts hl0 hR 20 0 (T_X7_why G h2) ws_X7_why lkL_33 hd_X7_why ⟨by decide, by decide⟩ hcs vl_20 rfl rfl rfl hl.1 rfl (Nat.le_of_ble_eq_true rfl) dL_law_640 (fun H locs hR => ?_)
  refine W.eq (g2 := F0 m 643 ls [.int r, .int r]) rfl ?_
  refine lv_icmp_eq (tgt := 1007) hx hb dL_law_643 (by decide) (fun _ => ?_) (fun z => absurd rfl z)
  exact kk f2 H locs hI hR
set_option maxHeartbeats 4000000 in
set_option maxRecDepth 100000 in
theorem law_c16 {p : Program} {l : Launch} {e : Env} {s : State} {m : MethodId} {below : List Frame} {meth : Method} {c : Code} {b L : Nat} {xs : Nat → Int32} {G : mmG} {cells slots : Nat} (hl0 : l = G.1) (C0 : lw_At p s m meth c b L xs) (hn0 : mm_n0 G = s.heap.size) (hcs : cells ≤ 600000 ∧ slots ≤ 7302250) {i : Nat} (hi : i + 4 ≤ L) (hL : L ≤ 2048) {f : F3} {H : Heap} {locs : List Loc} {ls : Array Slot} (hR : mm_R G mm_NT f (GG f) s H locs) (hl : lv_has ls 4 [(0, .ref b), (1, .ref (ra G 0 0)), (2, .ref (ra G 20 0)), (3, .int (nI i))]) {Inv : F3 → Prop} (h : ST Inv (fun f => S_X6_turn f (xs (i + 1))) (fun f => S_X7_turn f (xs (i + 1))) f)
    (kk : ∀ (f : F3) (H : Heap) (locs : List Loc), Inv f → mm_R G mm_NT f (GG f) s H locs → W p l e room_1 s m #[Value.ref b] below meth c H locs cells slots (lw_Z below #[Value.ref b] s) (F0 m 1007 ls [])) : W p l e room_1 s m #[Value.ref b] below meth c H locs cells slots (lw_Z below #[Value.ref b] s) (F0 m 648 ls []) := by
  obtain ⟨hx, hb, hr, hml, hown, hts0, hX, hbl, hlocks, hgv⟩ := id C0
  have hts : ∀ w ∈ BIG, w.before #[Value.ref b] s = true := fun w hw => hts0 w (List.mem_filter.mp hw).1
  have hown : s.vm.findClass RL = some m.cls := hown
  have hbA : ¬ mm_A G b := by
    unfold mm_A
    omega
  have a1 : nI i + 1 = nI (i + 1) := nI_1 i
  have a2 : nI i + 2 = nI (i + 2) := nI_add i 2
  have a3 : nI i + 3 = nI (i + 3) := nI_add i 3
  have q1 : (nI (i + 1)).toNatClampNeg = i + 1 := nI_clamp (by omega)
  have q2 : (nI (i + 2)).toNatClampNeg = i + 2 := nI_clamp (by omega)
  have q3 : (nI (i + 3)).toNatClampNeg = i + 3 := nI_clamp (by omega)
  obtain ⟨r, f1, f2, h1, h2, hI⟩ := h
  refine lv_aload_n hx hb dL_law_648 rfl (lv_at hl 1 rfl) ?_
  refine lv_aload_n hx hb dL_law_649 rfl (lv_at hl 0 rfl) ?_
  refine lv_iload_n hx hb dL_law_650 rfl (lv_at hl 3 rfl) ?_
  refine lv_iconst (v := 1) hx hb dL_law_651 (by decide) ?_
  refine lv_iadd hx hb dL_law_652 ?_
  rw [a1]
  refine va_sld hx hb hX hbl hbA hR.2.2.1 (vp_in_nI (show i + 1 < L by omega) (by omega)) dL_law_653 ?_
  rw [q1]
  refine mm_callG (v := some (.int r)) (f1 := f1) (d0 := 2) (rest := []) [.int (xs (i + 1))] hx hb hml hown hts hl0 hR 0 0 (T_X6_turn G h1) ws_X6_turn lkL_34 hd_X6_turn ⟨by decide, by decide⟩ hcs vl_0 rfl rfl rfl hl.1 rfl (Nat.le_of_ble_eq_true rfl) dL_law_654 (fun H locs hR => ?_)
  refine W.eq (g2 := F0 m 657 ls [.int r]) rfl ?_
  refine lv_aload_n hx hb dL_law_657 rfl (lv_at hl 2 rfl) ?_
  refine lv_aload_n hx hb dL_law_658 rfl (lv_at hl 0 rfl) ?_
  refine lv_iload_n hx hb dL_law_659 rfl (lv_at hl 3 rfl) ?_
  refine lv_iconst (v := 1) hx hb dL_law_660 (by decide) ?_
  refine lv_iadd hx hb dL_law_661 ?_
  rw [a1]
  refine va_sld hx hb hX hbl hbA hR.2.2.1 (vp_in_nI (show i + 1 < L by omega) (by omega)) dL_law_662 ?_
  rw [q1]
  refine mm_callG (v := some (.int r)) (f1 := f2) (d0 := 2) (rest := [.int r]) [.int (xs (i + 1))] hx hb hml hown hts hl0 hR 20 0 (T_X7_turn G h2) ws_X7_turn lkL_35 hd_X7_turn ⟨by decide, by decide⟩ hcs vl_20 rfl rfl rfl hl.1 rfl (Nat.le_of_ble_eq_true rfl) dL_law_663 (fun H locs hR => ?_)
  refine W.eq (g2 := F0 m 666 ls [.int r, .int r]) rfl ?_
  refine lv_icmp_eq (tgt := 1007) hx hb dL_law_666 (by decide) (fun _ => ?_) (fun z => absurd rfl z)
  exact kk f2 H locs hI hR
set_option maxHeartbeats 4000000 in
set_option maxRecDepth 100000 in
theorem law_c17 {p : Program} {l : Launch} {e : Env} {s : State} {m : MethodId} {below : List Frame} {meth : Method} {c : Code} {b L : Nat} {xs : Nat → Int32} {G : mmG} {cells slots : Nat} (hl0 : l = G.1) (C0 : lw_At p s m meth c b L xs) (hn0 : mm_n0 G = s.heap.size) (hcs : cells ≤ 600000 ∧ slots ≤ 7302250) {i : Nat} (hi : i + 4 ≤ L) (hL : L ≤ 2048) {f : F3} {H : Heap} {locs : List Loc} {ls : Array Slot} (hR : mm_R G mm_NT f (GG f) s H locs) (hl : lv_has ls 4 [(0, .ref b), (1, .ref (ra G 0 0)), (2, .ref (ra G 20 0)), (3, .int (nI i))]) {Inv : F3 → Prop} (h : ST Inv (fun f => S_X6_run f (xs (i + 1))) (fun f => S_X7_run f (xs (i + 1))) f)
    (kk : ∀ (f : F3) (H : Heap) (locs : List Loc), Inv f → mm_R G mm_NT f (GG f) s H locs → W p l e room_1 s m #[Value.ref b] below meth c H locs cells slots (lw_Z below #[Value.ref b] s) (F0 m 1007 ls [])) : W p l e room_1 s m #[Value.ref b] below meth c H locs cells slots (lw_Z below #[Value.ref b] s) (F0 m 671 ls []) := by
  obtain ⟨hx, hb, hr, hml, hown, hts0, hX, hbl, hlocks, hgv⟩ := id C0
  have hts : ∀ w ∈ BIG, w.before #[Value.ref b] s = true := fun w hw => hts0 w (List.mem_filter.mp hw).1
  have hown : s.vm.findClass RL = some m.cls := hown
  have hbA : ¬ mm_A G b := by
    unfold mm_A
    omega
  have a1 : nI i + 1 = nI (i + 1) := nI_1 i
  have a2 : nI i + 2 = nI (i + 2) := nI_add i 2
  have a3 : nI i + 3 = nI (i + 3) := nI_add i 3
  have q1 : (nI (i + 1)).toNatClampNeg = i + 1 := nI_clamp (by omega)
  have q2 : (nI (i + 2)).toNatClampNeg = i + 2 := nI_clamp (by omega)
  have q3 : (nI (i + 3)).toNatClampNeg = i + 3 := nI_clamp (by omega)
  obtain ⟨r, f1, f2, h1, h2, hI⟩ := h
  refine lv_aload_n hx hb dL_law_671 rfl (lv_at hl 1 rfl) ?_
  refine lv_aload_n hx hb dL_law_672 rfl (lv_at hl 0 rfl) ?_
  refine lv_iload_n hx hb dL_law_673 rfl (lv_at hl 3 rfl) ?_
  refine lv_iconst (v := 1) hx hb dL_law_674 (by decide) ?_
  refine lv_iadd hx hb dL_law_675 ?_
  rw [a1]
  refine va_sld hx hb hX hbl hbA hR.2.2.1 (vp_in_nI (show i + 1 < L by omega) (by omega)) dL_law_676 ?_
  rw [q1]
  refine mm_callG (v := some (.int r)) (f1 := f1) (d0 := 6) (rest := []) [.int (xs (i + 1))] hx hb hml hown hts hl0 hR 0 0 (T_X6_run G h1) ws_X6_run lkL_36 hd_X6_run ⟨by decide, by decide⟩ hcs vl_0 rfl rfl rfl hl.1 rfl (Nat.le_of_ble_eq_true rfl) dL_law_677 (fun H locs hR => ?_)
  refine W.eq (g2 := F0 m 680 ls [.int r]) rfl ?_
  refine lv_aload_n hx hb dL_law_680 rfl (lv_at hl 2 rfl) ?_
  refine lv_aload_n hx hb dL_law_681 rfl (lv_at hl 0 rfl) ?_
  refine lv_iload_n hx hb dL_law_682 rfl (lv_at hl 3 rfl) ?_
  refine lv_iconst (v := 1) hx hb dL_law_683 (by decide) ?_
  refine lv_iadd hx hb dL_law_684 ?_
  rw [a1]
  refine va_sld hx hb hX hbl hbA hR.2.2.1 (vp_in_nI (show i + 1 < L by omega) (by omega)) dL_law_685 ?_
  rw [q1]
  refine mm_callG (v := some (.int r)) (f1 := f2) (d0 := 8) (rest := [.int r]) [.int (xs (i + 1))] hx hb hml hown hts hl0 hR 20 0 (T_X7_run G h2) ws_X7_run lkL_37 hd_X7_run ⟨by decide, by decide⟩ hcs vl_20 rfl rfl rfl hl.1 rfl (Nat.le_of_ble_eq_true rfl) dL_law_686 (fun H locs hR => ?_)
  refine W.eq (g2 := F0 m 689 ls [.int r, .int r]) rfl ?_
  refine lv_icmp_eq (tgt := 1007) hx hb dL_law_689 (by decide) (fun _ => ?_) (fun z => absurd rfl z)
  exact kk f2 H locs hI hR
set_option maxHeartbeats 4000000 in
set_option maxRecDepth 100000 in
theorem law_c18 {p : Program} {l : Launch} {e : Env} {s : State} {m : MethodId} {below : List Frame} {meth : Method} {c : Code} {b L : Nat} {xs : Nat → Int32} {G : mmG} {cells slots : Nat} (hl0 : l = G.1) (C0 : lw_At p s m meth c b L xs) (hn0 : mm_n0 G = s.heap.size) (hcs : cells ≤ 600000 ∧ slots ≤ 7302250) {i : Nat} (hi : i + 4 ≤ L) (hL : L ≤ 2048) {f : F3} {H : Heap} {locs : List Loc} {ls : Array Slot} (hR : mm_R G mm_NT f (GG f) s H locs) (hl : lv_has ls 4 [(0, .ref b), (1, .ref (ra G 0 0)), (2, .ref (ra G 20 0)), (3, .int (nI i))]) {Inv : F3 → Prop} (h : ST Inv (fun f => S_X6_thaw f (xs (i + 1)) (xs (i + 2))) (fun f => S_X7_thaw f (xs (i + 1)) (xs (i + 2))) f)
    (kk : ∀ (f : F3) (H : Heap) (locs : List Loc), Inv f → mm_R G mm_NT f (GG f) s H locs → W p l e room_1 s m #[Value.ref b] below meth c H locs cells slots (lw_Z below #[Value.ref b] s) (F0 m 1007 ls [])) : W p l e room_1 s m #[Value.ref b] below meth c H locs cells slots (lw_Z below #[Value.ref b] s) (F0 m 694 ls []) := by
  obtain ⟨hx, hb, hr, hml, hown, hts0, hX, hbl, hlocks, hgv⟩ := id C0
  have hts : ∀ w ∈ BIG, w.before #[Value.ref b] s = true := fun w hw => hts0 w (List.mem_filter.mp hw).1
  have hown : s.vm.findClass RL = some m.cls := hown
  have hbA : ¬ mm_A G b := by
    unfold mm_A
    omega
  have a1 : nI i + 1 = nI (i + 1) := nI_1 i
  have a2 : nI i + 2 = nI (i + 2) := nI_add i 2
  have a3 : nI i + 3 = nI (i + 3) := nI_add i 3
  have q1 : (nI (i + 1)).toNatClampNeg = i + 1 := nI_clamp (by omega)
  have q2 : (nI (i + 2)).toNatClampNeg = i + 2 := nI_clamp (by omega)
  have q3 : (nI (i + 3)).toNatClampNeg = i + 3 := nI_clamp (by omega)
  obtain ⟨r, f1, f2, h1, h2, hI⟩ := h
  refine lv_aload_n hx hb dL_law_694 rfl (lv_at hl 1 rfl) ?_
  refine lv_aload_n hx hb dL_law_695 rfl (lv_at hl 0 rfl) ?_
  refine lv_iload_n hx hb dL_law_696 rfl (lv_at hl 3 rfl) ?_
  refine lv_iconst (v := 1) hx hb dL_law_697 (by decide) ?_
  refine lv_iadd hx hb dL_law_698 ?_
  rw [a1]
  refine va_sld hx hb hX hbl hbA hR.2.2.1 (vp_in_nI (show i + 1 < L by omega) (by omega)) dL_law_699 ?_
  rw [q1]
  refine lv_aload_n hx hb dL_law_700 rfl (lv_at hl 0 rfl) ?_
  refine lv_iload_n hx hb dL_law_701 rfl (lv_at hl 3 rfl) ?_
  refine lv_iconst (v := 2) hx hb dL_law_702 (by decide) ?_
  refine lv_iadd hx hb dL_law_703 ?_
  rw [a2]
  refine va_sld hx hb hX hbl hbA hR.2.2.1 (vp_in_nI (show i + 2 < L by omega) (by omega)) dL_law_704 ?_
  rw [q2]
  refine mm_callG (v := some (.int r)) (f1 := f1) (d0 := 4) (rest := []) [.int (xs (i + 1)), .int (xs (i + 2))] hx hb hml hown hts hl0 hR 0 0 (T_X6_thaw G h1) ws_X6_thaw lkL_38 hd_X6_thaw ⟨by decide, by decide⟩ hcs vl_0 rfl rfl rfl hl.1 rfl (Nat.le_of_ble_eq_true rfl) dL_law_705 (fun H locs hR => ?_)
  refine W.eq (g2 := F0 m 708 ls [.int r]) rfl ?_
  refine lv_aload_n hx hb dL_law_708 rfl (lv_at hl 2 rfl) ?_
  refine lv_aload_n hx hb dL_law_709 rfl (lv_at hl 0 rfl) ?_
  refine lv_iload_n hx hb dL_law_710 rfl (lv_at hl 3 rfl) ?_
  refine lv_iconst (v := 1) hx hb dL_law_711 (by decide) ?_
  refine lv_iadd hx hb dL_law_712 ?_
  rw [a1]
  refine va_sld hx hb hX hbl hbA hR.2.2.1 (vp_in_nI (show i + 1 < L by omega) (by omega)) dL_law_713 ?_
  rw [q1]
  refine lv_aload_n hx hb dL_law_714 rfl (lv_at hl 0 rfl) ?_
  refine lv_iload_n hx hb dL_law_715 rfl (lv_at hl 3 rfl) ?_
  refine lv_iconst (v := 2) hx hb dL_law_716 (by decide) ?_
  refine lv_iadd hx hb dL_law_717 ?_
  rw [a2]
  refine va_sld hx hb hX hbl hbA hR.2.2.1 (vp_in_nI (show i + 2 < L by omega) (by omega)) dL_law_718 ?_
  rw [q2]
  refine mm_callG (v := some (.int r)) (f1 := f2) (d0 := 2) (rest := [.int r]) [.int (xs (i + 1)), .int (xs (i + 2))] hx hb hml hown hts hl0 hR 20 0 (T_X7_thaw G h2) ws_X7_thaw lkL_39 hd_X7_thaw ⟨by decide, by decide⟩ hcs vl_20 rfl rfl rfl hl.1 rfl (Nat.le_of_ble_eq_true rfl) dL_law_719 (fun H locs hR => ?_)
  refine W.eq (g2 := F0 m 722 ls [.int r, .int r]) rfl ?_
  refine lv_icmp_eq (tgt := 1007) hx hb dL_law_722 (by decide) (fun _ => ?_) (fun z => absurd rfl z)
  exact kk f2 H locs hI hR
set_option maxHeartbeats 4000000 in
set_option maxRecDepth 100000 in
theorem law_c19 {p : Program} {l : Launch} {e : Env} {s : State} {m : MethodId} {below : List Frame} {meth : Method} {c : Code} {b L : Nat} {xs : Nat → Int32} {G : mmG} {cells slots : Nat} (hl0 : l = G.1) (C0 : lw_At p s m meth c b L xs) (hn0 : mm_n0 G = s.heap.size) (hcs : cells ≤ 600000 ∧ slots ≤ 7302250) {i : Nat} (hi : i + 4 ≤ L) (hL : L ≤ 2048) {f : F3} {H : Heap} {locs : List Loc} {ls : Array Slot} (hR : mm_R G mm_NT f (GG f) s H locs) (hl : lv_has ls 4 [(0, .ref b), (1, .ref (ra G 0 0)), (2, .ref (ra G 20 0)), (3, .int (nI i))]) {Inv : F3 → Prop} (h : ST Inv (fun f => S_X6_feed f (xs (i + 1)) (xs (i + 2))) (fun f => S_X7_feed f (xs (i + 1)) (xs (i + 2))) f)
    (kk : ∀ (f : F3) (H : Heap) (locs : List Loc), Inv f → mm_R G mm_NT f (GG f) s H locs → W p l e room_1 s m #[Value.ref b] below meth c H locs cells slots (lw_Z below #[Value.ref b] s) (F0 m 1007 ls [])) : W p l e room_1 s m #[Value.ref b] below meth c H locs cells slots (lw_Z below #[Value.ref b] s) (F0 m 727 ls []) := by
  obtain ⟨hx, hb, hr, hml, hown, hts0, hX, hbl, hlocks, hgv⟩ := id C0
  have hts : ∀ w ∈ BIG, w.before #[Value.ref b] s = true := fun w hw => hts0 w (List.mem_filter.mp hw).1
  have hown : s.vm.findClass RL = some m.cls := hown
  have hbA : ¬ mm_A G b := by
    unfold mm_A
    omega
  have a1 : nI i + 1 = nI (i + 1) := nI_1 i
  have a2 : nI i + 2 = nI (i + 2) := nI_add i 2
  have a3 : nI i + 3 = nI (i + 3) := nI_add i 3
  have q1 : (nI (i + 1)).toNatClampNeg = i + 1 := nI_clamp (by omega)
  have q2 : (nI (i + 2)).toNatClampNeg = i + 2 := nI_clamp (by omega)
  have q3 : (nI (i + 3)).toNatClampNeg = i + 3 := nI_clamp (by omega)
  obtain ⟨r, f1, f2, h1, h2, hI⟩ := h
  refine lv_aload_n hx hb dL_law_727 rfl (lv_at hl 1 rfl) ?_
  refine lv_aload_n hx hb dL_law_728 rfl (lv_at hl 0 rfl) ?_
  refine lv_iload_n hx hb dL_law_729 rfl (lv_at hl 3 rfl) ?_
  refine lv_iconst (v := 1) hx hb dL_law_730 (by decide) ?_
  refine lv_iadd hx hb dL_law_731 ?_
  rw [a1]
  refine va_sld hx hb hX hbl hbA hR.2.2.1 (vp_in_nI (show i + 1 < L by omega) (by omega)) dL_law_732 ?_
  rw [q1]
  refine lv_aload_n hx hb dL_law_733 rfl (lv_at hl 0 rfl) ?_
  refine lv_iload_n hx hb dL_law_734 rfl (lv_at hl 3 rfl) ?_
  refine lv_iconst (v := 2) hx hb dL_law_735 (by decide) ?_
  refine lv_iadd hx hb dL_law_736 ?_
  rw [a2]
  refine va_sld hx hb hX hbl hbA hR.2.2.1 (vp_in_nI (show i + 2 < L by omega) (by omega)) dL_law_737 ?_
  rw [q2]
  refine mm_callG (v := some (.int r)) (f1 := f1) (d0 := 2) (rest := []) [.int (xs (i + 1)), .int (xs (i + 2))] hx hb hml hown hts hl0 hR 0 0 (T_X6_feed G h1) ws_X6_feed lkL_40 hd_X6_feed ⟨by decide, by decide⟩ hcs vl_0 rfl rfl rfl hl.1 rfl (Nat.le_of_ble_eq_true rfl) dL_law_738 (fun H locs hR => ?_)
  refine W.eq (g2 := F0 m 741 ls [.int r]) rfl ?_
  refine lv_aload_n hx hb dL_law_741 rfl (lv_at hl 2 rfl) ?_
  refine lv_aload_n hx hb dL_law_742 rfl (lv_at hl 0 rfl) ?_
  refine lv_iload_n hx hb dL_law_743 rfl (lv_at hl 3 rfl) ?_
  refine lv_iconst (v := 1) hx hb dL_law_744 (by decide) ?_
  refine lv_iadd hx hb dL_law_745 ?_
  rw [a1]
  refine va_sld hx hb hX hbl hbA hR.2.2.1 (vp_in_nI (show i + 1 < L by omega) (by omega)) dL_law_746 ?_
  rw [q1]
  refine lv_aload_n hx hb dL_law_747 rfl (lv_at hl 0 rfl) ?_
  refine lv_iload_n hx hb dL_law_748 rfl (lv_at hl 3 rfl) ?_
  refine lv_iconst (v := 2) hx hb dL_law_749 (by decide) ?_
  refine lv_iadd hx hb dL_law_750 ?_
  rw [a2]
  refine va_sld hx hb hX hbl hbA hR.2.2.1 (vp_in_nI (show i + 2 < L by omega) (by omega)) dL_law_751 ?_
  rw [q2]
  refine mm_callG (v := some (.int r)) (f1 := f2) (d0 := 1) (rest := [.int r]) [.int (xs (i + 1)), .int (xs (i + 2))] hx hb hml hown hts hl0 hR 20 0 (T_X7_feed G h2) ws_X7_feed lkL_41 hd_X7_feed ⟨by decide, by decide⟩ hcs vl_20 rfl rfl rfl hl.1 rfl (Nat.le_of_ble_eq_true rfl) dL_law_752 (fun H locs hR => ?_)
  refine W.eq (g2 := F0 m 755 ls [.int r, .int r]) rfl ?_
  refine lv_icmp_eq (tgt := 1007) hx hb dL_law_755 (by decide) (fun _ => ?_) (fun z => absurd rfl z)
  exact kk f2 H locs hI hR
set_option maxHeartbeats 4000000 in
set_option maxRecDepth 100000 in
theorem law_c20 {p : Program} {l : Launch} {e : Env} {s : State} {m : MethodId} {below : List Frame} {meth : Method} {c : Code} {b L : Nat} {xs : Nat → Int32} {G : mmG} {cells slots : Nat} (hl0 : l = G.1) (C0 : lw_At p s m meth c b L xs) (hn0 : mm_n0 G = s.heap.size) (hcs : cells ≤ 600000 ∧ slots ≤ 7302250) {i : Nat} (hi : i + 4 ≤ L) (hL : L ≤ 2048) {f : F3} {H : Heap} {locs : List Loc} {ls : Array Slot} (hR : mm_R G mm_NT f (GG f) s H locs) (hl : lv_has ls 4 [(0, .ref b), (1, .ref (ra G 0 0)), (2, .ref (ra G 20 0)), (3, .int (nI i))]) {Inv : F3 → Prop} (h : ST Inv (fun f => S_X6_wipe f ) (fun f => S_X7_wipe f ) f)
    (kk : ∀ (f : F3) (H : Heap) (locs : List Loc), Inv f → mm_R G mm_NT f (GG f) s H locs → W p l e room_1 s m #[Value.ref b] below meth c H locs cells slots (lw_Z below #[Value.ref b] s) (F0 m 1007 ls [])) : W p l e room_1 s m #[Value.ref b] below meth c H locs cells slots (lw_Z below #[Value.ref b] s) (F0 m 760 ls []) := by
  obtain ⟨hx, hb, hr, hml, hown, hts0, hX, hbl, hlocks, hgv⟩ := id C0
  have hts : ∀ w ∈ BIG, w.before #[Value.ref b] s = true := fun w hw => hts0 w (List.mem_filter.mp hw).1
  have hown : s.vm.findClass RL = some m.cls := hown
  have hbA : ¬ mm_A G b := by
    unfold mm_A
    omega
  have a1 : nI i + 1 = nI (i + 1) := nI_1 i
  have a2 : nI i + 2 = nI (i + 2) := nI_add i 2
  have a3 : nI i + 3 = nI (i + 3) := nI_add i 3
  have q1 : (nI (i + 1)).toNatClampNeg = i + 1 := nI_clamp (by omega)
  have q2 : (nI (i + 2)).toNatClampNeg = i + 2 := nI_clamp (by omega)
  have q3 : (nI (i + 3)).toNatClampNeg = i + 3 := nI_clamp (by omega)
  obtain ⟨r, f1, f2, h1, h2, hI⟩ := h
  refine lv_aload_n hx hb dL_law_760 rfl (lv_at hl 1 rfl) ?_
  refine mm_callG (v := some (.int r)) (f1 := f1) (d0 := 0) (rest := []) [] hx hb hml hown hts hl0 hR 0 0 (T_X6_wipe G h1) ws_X6_wipe lkL_42 hd_X6_wipe ⟨by decide, by decide⟩ hcs vl_0 rfl rfl rfl hl.1 rfl (Nat.le_of_ble_eq_true rfl) dL_law_761 (fun H locs hR => ?_)
  refine W.eq (g2 := F0 m 764 ls [.int r]) rfl ?_
  refine lv_aload_n hx hb dL_law_764 rfl (lv_at hl 2 rfl) ?_
  refine mm_callG (v := some (.int r)) (f1 := f2) (d0 := 0) (rest := [.int r]) [] hx hb hml hown hts hl0 hR 20 0 (T_X7_wipe G h2) ws_X7_wipe lkL_43 hd_X7_wipe ⟨by decide, by decide⟩ hcs vl_20 rfl rfl rfl hl.1 rfl (Nat.le_of_ble_eq_true rfl) dL_law_765 (fun H locs hR => ?_)
  refine W.eq (g2 := F0 m 768 ls [.int r, .int r]) rfl ?_
  refine lv_icmp_eq (tgt := 1007) hx hb dL_law_768 (by decide) (fun _ => ?_) (fun z => absurd rfl z)
  exact kk f2 H locs hI hR
set_option maxHeartbeats 4000000 in
set_option maxRecDepth 100000 in
theorem law_c21 {p : Program} {l : Launch} {e : Env} {s : State} {m : MethodId} {below : List Frame} {meth : Method} {c : Code} {b L : Nat} {xs : Nat → Int32} {G : mmG} {cells slots : Nat} (hl0 : l = G.1) (C0 : lw_At p s m meth c b L xs) (hn0 : mm_n0 G = s.heap.size) (hcs : cells ≤ 600000 ∧ slots ≤ 7302250) {i : Nat} (hi : i + 4 ≤ L) (hL : L ≤ 2048) {f : F3} {H : Heap} {locs : List Loc} {ls : Array Slot} (hR : mm_R G mm_NT f (GG f) s H locs) (hl : lv_has ls 4 [(0, .ref b), (1, .ref (ra G 0 0)), (2, .ref (ra G 20 0)), (3, .int (nI i))]) {Inv : F3 → Prop} (h : ST Inv (fun f => S_X6_rule f (xs (i + 1)) (xs (i + 2))) (fun f => S_X7_rule f (xs (i + 1)) (xs (i + 2))) f)
    (kk : ∀ (f : F3) (H : Heap) (locs : List Loc), Inv f → mm_R G mm_NT f (GG f) s H locs → W p l e room_1 s m #[Value.ref b] below meth c H locs cells slots (lw_Z below #[Value.ref b] s) (F0 m 1007 ls [])) : W p l e room_1 s m #[Value.ref b] below meth c H locs cells slots (lw_Z below #[Value.ref b] s) (F0 m 773 ls []) := by
  obtain ⟨hx, hb, hr, hml, hown, hts0, hX, hbl, hlocks, hgv⟩ := id C0
  have hts : ∀ w ∈ BIG, w.before #[Value.ref b] s = true := fun w hw => hts0 w (List.mem_filter.mp hw).1
  have hown : s.vm.findClass RL = some m.cls := hown
  have hbA : ¬ mm_A G b := by
    unfold mm_A
    omega
  have a1 : nI i + 1 = nI (i + 1) := nI_1 i
  have a2 : nI i + 2 = nI (i + 2) := nI_add i 2
  have a3 : nI i + 3 = nI (i + 3) := nI_add i 3
  have q1 : (nI (i + 1)).toNatClampNeg = i + 1 := nI_clamp (by omega)
  have q2 : (nI (i + 2)).toNatClampNeg = i + 2 := nI_clamp (by omega)
  have q3 : (nI (i + 3)).toNatClampNeg = i + 3 := nI_clamp (by omega)
  obtain ⟨r, f1, f2, h1, h2, hI⟩ := h
  refine lv_aload_n hx hb dL_law_773 rfl (lv_at hl 1 rfl) ?_
  refine lv_aload_n hx hb dL_law_774 rfl (lv_at hl 0 rfl) ?_
  refine lv_iload_n hx hb dL_law_775 rfl (lv_at hl 3 rfl) ?_
  refine lv_iconst (v := 1) hx hb dL_law_776 (by decide) ?_
  refine lv_iadd hx hb dL_law_777 ?_
  rw [a1]
  refine va_sld hx hb hX hbl hbA hR.2.2.1 (vp_in_nI (show i + 1 < L by omega) (by omega)) dL_law_778 ?_
  rw [q1]
  refine lv_aload_n hx hb dL_law_779 rfl (lv_at hl 0 rfl) ?_
  refine lv_iload_n hx hb dL_law_780 rfl (lv_at hl 3 rfl) ?_
  refine lv_iconst (v := 2) hx hb dL_law_781 (by decide) ?_
  refine lv_iadd hx hb dL_law_782 ?_
  rw [a2]
  refine va_sld hx hb hX hbl hbA hR.2.2.1 (vp_in_nI (show i + 2 < L by omega) (by omega)) dL_law_783 ?_
  rw [q2]
  refine mm_callG (v := some (.int r)) (f1 := f1) (d0 := 9) (rest := []) [.int (xs (i + 1)), .int (xs (i + 2))] hx hb hml hown hts hl0 hR 0 0 (T_X6_rule G h1) ws_X6_rule lkL_44 hd_X6_rule ⟨by decide, by decide⟩ hcs vl_0 rfl rfl rfl hl.1 rfl (Nat.le_of_ble_eq_true rfl) dL_law_784 (fun H locs hR => ?_)
  refine W.eq (g2 := F0 m 787 ls [.int r]) rfl ?_
  refine lv_aload_n hx hb dL_law_787 rfl (lv_at hl 2 rfl) ?_
  refine lv_aload_n hx hb dL_law_788 rfl (lv_at hl 0 rfl) ?_
  refine lv_iload_n hx hb dL_law_789 rfl (lv_at hl 3 rfl) ?_
  refine lv_iconst (v := 1) hx hb dL_law_790 (by decide) ?_
  refine lv_iadd hx hb dL_law_791 ?_
  rw [a1]
  refine va_sld hx hb hX hbl hbA hR.2.2.1 (vp_in_nI (show i + 1 < L by omega) (by omega)) dL_law_792 ?_
  rw [q1]
  refine lv_aload_n hx hb dL_law_793 rfl (lv_at hl 0 rfl) ?_
  refine lv_iload_n hx hb dL_law_794 rfl (lv_at hl 3 rfl) ?_
  refine lv_iconst (v := 2) hx hb dL_law_795 (by decide) ?_
  refine lv_iadd hx hb dL_law_796 ?_
  rw [a2]
  refine va_sld hx hb hX hbl hbA hR.2.2.1 (vp_in_nI (show i + 2 < L by omega) (by omega)) dL_law_797 ?_
  rw [q2]
  refine mm_callG (v := some (.int r)) (f1 := f2) (d0 := 6) (rest := [.int r]) [.int (xs (i + 1)), .int (xs (i + 2))] hx hb hml hown hts hl0 hR 20 0 (T_X7_rule G h2) ws_X7_rule lkL_45 hd_X7_rule ⟨by decide, by decide⟩ hcs vl_20 rfl rfl rfl hl.1 rfl (Nat.le_of_ble_eq_true rfl) dL_law_798 (fun H locs hR => ?_)
  refine W.eq (g2 := F0 m 801 ls [.int r, .int r]) rfl ?_
  refine lv_icmp_eq (tgt := 1007) hx hb dL_law_801 (by decide) (fun _ => ?_) (fun z => absurd rfl z)
  exact kk f2 H locs hI hR
set_option maxHeartbeats 4000000 in
set_option maxRecDepth 100000 in
theorem law_c22 {p : Program} {l : Launch} {e : Env} {s : State} {m : MethodId} {below : List Frame} {meth : Method} {c : Code} {b L : Nat} {xs : Nat → Int32} {G : mmG} {cells slots : Nat} (hl0 : l = G.1) (C0 : lw_At p s m meth c b L xs) (hn0 : mm_n0 G = s.heap.size) (hcs : cells ≤ 600000 ∧ slots ≤ 7302250) {i : Nat} (hi : i + 4 ≤ L) (hL : L ≤ 2048) {f : F3} {H : Heap} {locs : List Loc} {ls : Array Slot} (hR : mm_R G mm_NT f (GG f) s H locs) (hl : lv_has ls 4 [(0, .ref b), (1, .ref (ra G 0 0)), (2, .ref (ra G 20 0)), (3, .int (nI i))]) {Inv : F3 → Prop} (h : ST Inv (fun f => S_X6_said f (xs (i + 1)) (xs (i + 2)) (xs (i + 3))) (fun f => S_X7_said f (xs (i + 1)) (xs (i + 2)) (xs (i + 3))) f)
    (kk : ∀ (f : F3) (H : Heap) (locs : List Loc), Inv f → mm_R G mm_NT f (GG f) s H locs → W p l e room_1 s m #[Value.ref b] below meth c H locs cells slots (lw_Z below #[Value.ref b] s) (F0 m 1007 ls [])) : W p l e room_1 s m #[Value.ref b] below meth c H locs cells slots (lw_Z below #[Value.ref b] s) (F0 m 806 ls []) := by
  obtain ⟨hx, hb, hr, hml, hown, hts0, hX, hbl, hlocks, hgv⟩ := id C0
  have hts : ∀ w ∈ BIG, w.before #[Value.ref b] s = true := fun w hw => hts0 w (List.mem_filter.mp hw).1
  have hown : s.vm.findClass RL = some m.cls := hown
  have hbA : ¬ mm_A G b := by
    unfold mm_A
    omega
  have a1 : nI i + 1 = nI (i + 1) := nI_1 i
  have a2 : nI i + 2 = nI (i + 2) := nI_add i 2
  have a3 : nI i + 3 = nI (i + 3) := nI_add i 3
  have q1 : (nI (i + 1)).toNatClampNeg = i + 1 := nI_clamp (by omega)
  have q2 : (nI (i + 2)).toNatClampNeg = i + 2 := nI_clamp (by omega)
  have q3 : (nI (i + 3)).toNatClampNeg = i + 3 := nI_clamp (by omega)
  obtain ⟨r, f1, f2, h1, h2, hI⟩ := h
  refine lv_aload_n hx hb dL_law_806 rfl (lv_at hl 1 rfl) ?_
  refine lv_aload_n hx hb dL_law_807 rfl (lv_at hl 0 rfl) ?_
  refine lv_iload_n hx hb dL_law_808 rfl (lv_at hl 3 rfl) ?_
  refine lv_iconst (v := 1) hx hb dL_law_809 (by decide) ?_
  refine lv_iadd hx hb dL_law_810 ?_
  rw [a1]
  refine va_sld hx hb hX hbl hbA hR.2.2.1 (vp_in_nI (show i + 1 < L by omega) (by omega)) dL_law_811 ?_
  rw [q1]
  refine lv_aload_n hx hb dL_law_812 rfl (lv_at hl 0 rfl) ?_
  refine lv_iload_n hx hb dL_law_813 rfl (lv_at hl 3 rfl) ?_
  refine lv_iconst (v := 2) hx hb dL_law_814 (by decide) ?_
  refine lv_iadd hx hb dL_law_815 ?_
  rw [a2]
  refine va_sld hx hb hX hbl hbA hR.2.2.1 (vp_in_nI (show i + 2 < L by omega) (by omega)) dL_law_816 ?_
  rw [q2]
  refine lv_aload_n hx hb dL_law_817 rfl (lv_at hl 0 rfl) ?_
  refine lv_iload_n hx hb dL_law_818 rfl (lv_at hl 3 rfl) ?_
  refine lv_iconst (v := 3) hx hb dL_law_819 (by decide) ?_
  refine lv_iadd hx hb dL_law_820 ?_
  rw [a3]
  refine va_sld hx hb hX hbl hbA hR.2.2.1 (vp_in_nI (show i + 3 < L by omega) (by omega)) dL_law_821 ?_
  rw [q3]
  refine mm_callG (v := some (.int r)) (f1 := f1) (d0 := 3) (rest := []) [.int (xs (i + 1)), .int (xs (i + 2)), .int (xs (i + 3))] hx hb hml hown hts hl0 hR 0 0 (T_X6_said G h1) ws_X6_said lkL_46 hd_X6_said ⟨by decide, by decide⟩ hcs vl_0 rfl rfl rfl hl.1 rfl (Nat.le_of_ble_eq_true rfl) dL_law_822 (fun H locs hR => ?_)
  refine W.eq (g2 := F0 m 825 ls [.int r]) rfl ?_
  refine lv_aload_n hx hb dL_law_825 rfl (lv_at hl 2 rfl) ?_
  refine lv_aload_n hx hb dL_law_826 rfl (lv_at hl 0 rfl) ?_
  refine lv_iload_n hx hb dL_law_827 rfl (lv_at hl 3 rfl) ?_
  refine lv_iconst (v := 1) hx hb dL_law_828 (by decide) ?_
  refine lv_iadd hx hb dL_law_829 ?_
  rw [a1]
  refine va_sld hx hb hX hbl hbA hR.2.2.1 (vp_in_nI (show i + 1 < L by omega) (by omega)) dL_law_830 ?_
  rw [q1]
  refine lv_aload_n hx hb dL_law_831 rfl (lv_at hl 0 rfl) ?_
  refine lv_iload_n hx hb dL_law_832 rfl (lv_at hl 3 rfl) ?_
  refine lv_iconst (v := 2) hx hb dL_law_833 (by decide) ?_
  refine lv_iadd hx hb dL_law_834 ?_
  rw [a2]
  refine va_sld hx hb hX hbl hbA hR.2.2.1 (vp_in_nI (show i + 2 < L by omega) (by omega)) dL_law_835 ?_
  rw [q2]
  refine lv_aload_n hx hb dL_law_836 rfl (lv_at hl 0 rfl) ?_
  refine lv_iload_n hx hb dL_law_837 rfl (lv_at hl 3 rfl) ?_
  refine lv_iconst (v := 3) hx hb dL_law_838 (by decide) ?_
  refine lv_iadd hx hb dL_law_839 ?_
  rw [a3]
  refine va_sld hx hb hX hbl hbA hR.2.2.1 (vp_in_nI (show i + 3 < L by omega) (by omega)) dL_law_840 ?_
  rw [q3]
  refine mm_callG (v := some (.int r)) (f1 := f2) (d0 := 4) (rest := [.int r]) [.int (xs (i + 1)), .int (xs (i + 2)), .int (xs (i + 3))] hx hb hml hown hts hl0 hR 20 0 (T_X7_said G h2) ws_X7_said lkL_47 hd_X7_said ⟨by decide, by decide⟩ hcs vl_20 rfl rfl rfl hl.1 rfl (Nat.le_of_ble_eq_true rfl) dL_law_841 (fun H locs hR => ?_)
  refine W.eq (g2 := F0 m 844 ls [.int r, .int r]) rfl ?_
  refine lv_icmp_eq (tgt := 1007) hx hb dL_law_844 (by decide) (fun _ => ?_) (fun z => absurd rfl z)
  exact kk f2 H locs hI hR
set_option maxHeartbeats 4000000 in
set_option maxRecDepth 100000 in
theorem law_c23 {p : Program} {l : Launch} {e : Env} {s : State} {m : MethodId} {below : List Frame} {meth : Method} {c : Code} {b L : Nat} {xs : Nat → Int32} {G : mmG} {cells slots : Nat} (hl0 : l = G.1) (C0 : lw_At p s m meth c b L xs) (hn0 : mm_n0 G = s.heap.size) (hcs : cells ≤ 600000 ∧ slots ≤ 7302250) {i : Nat} (hi : i + 4 ≤ L) (hL : L ≤ 2048) {f : F3} {H : Heap} {locs : List Loc} {ls : Array Slot} (hR : mm_R G mm_NT f (GG f) s H locs) (hl : lv_has ls 4 [(0, .ref b), (1, .ref (ra G 0 0)), (2, .ref (ra G 20 0)), (3, .int (nI i))]) {Inv : F3 → Prop} (h : ST Inv (fun f => S_X6_count f (xs (i + 1))) (fun f => S_X7_count f (xs (i + 1))) f)
    (kk : ∀ (f : F3) (H : Heap) (locs : List Loc), Inv f → mm_R G mm_NT f (GG f) s H locs → W p l e room_1 s m #[Value.ref b] below meth c H locs cells slots (lw_Z below #[Value.ref b] s) (F0 m 1007 ls [])) : W p l e room_1 s m #[Value.ref b] below meth c H locs cells slots (lw_Z below #[Value.ref b] s) (F0 m 849 ls []) := by
  obtain ⟨hx, hb, hr, hml, hown, hts0, hX, hbl, hlocks, hgv⟩ := id C0
  have hts : ∀ w ∈ BIG, w.before #[Value.ref b] s = true := fun w hw => hts0 w (List.mem_filter.mp hw).1
  have hown : s.vm.findClass RL = some m.cls := hown
  have hbA : ¬ mm_A G b := by
    unfold mm_A
    omega
  have a1 : nI i + 1 = nI (i + 1) := nI_1 i
  have a2 : nI i + 2 = nI (i + 2) := nI_add i 2
  have a3 : nI i + 3 = nI (i + 3) := nI_add i 3
  have q1 : (nI (i + 1)).toNatClampNeg = i + 1 := nI_clamp (by omega)
  have q2 : (nI (i + 2)).toNatClampNeg = i + 2 := nI_clamp (by omega)
  have q3 : (nI (i + 3)).toNatClampNeg = i + 3 := nI_clamp (by omega)
  obtain ⟨r, f1, f2, h1, h2, hI⟩ := h
  refine lv_aload_n hx hb dL_law_849 rfl (lv_at hl 1 rfl) ?_
  refine lv_aload_n hx hb dL_law_850 rfl (lv_at hl 0 rfl) ?_
  refine lv_iload_n hx hb dL_law_851 rfl (lv_at hl 3 rfl) ?_
  refine lv_iconst (v := 1) hx hb dL_law_852 (by decide) ?_
  refine lv_iadd hx hb dL_law_853 ?_
  rw [a1]
  refine va_sld hx hb hX hbl hbA hR.2.2.1 (vp_in_nI (show i + 1 < L by omega) (by omega)) dL_law_854 ?_
  rw [q1]
  refine mm_callG (v := some (.int r)) (f1 := f1) (d0 := 2) (rest := []) [.int (xs (i + 1))] hx hb hml hown hts hl0 hR 0 0 (T_X6_count G h1) ws_X6_count lkL_48 hd_X6_count ⟨by decide, by decide⟩ hcs vl_0 rfl rfl rfl hl.1 rfl (Nat.le_of_ble_eq_true rfl) dL_law_855 (fun H locs hR => ?_)
  refine W.eq (g2 := F0 m 858 ls [.int r]) rfl ?_
  refine lv_aload_n hx hb dL_law_858 rfl (lv_at hl 2 rfl) ?_
  refine lv_aload_n hx hb dL_law_859 rfl (lv_at hl 0 rfl) ?_
  refine lv_iload_n hx hb dL_law_860 rfl (lv_at hl 3 rfl) ?_
  refine lv_iconst (v := 1) hx hb dL_law_861 (by decide) ?_
  refine lv_iadd hx hb dL_law_862 ?_
  rw [a1]
  refine va_sld hx hb hX hbl hbA hR.2.2.1 (vp_in_nI (show i + 1 < L by omega) (by omega)) dL_law_863 ?_
  rw [q1]
  refine mm_callG (v := some (.int r)) (f1 := f2) (d0 := 1) (rest := [.int r]) [.int (xs (i + 1))] hx hb hml hown hts hl0 hR 20 0 (T_X7_count G h2) ws_X7_count lkL_49 hd_X7_count ⟨by decide, by decide⟩ hcs vl_20 rfl rfl rfl hl.1 rfl (Nat.le_of_ble_eq_true rfl) dL_law_864 (fun H locs hR => ?_)
  refine W.eq (g2 := F0 m 867 ls [.int r, .int r]) rfl ?_
  refine lv_icmp_eq (tgt := 1007) hx hb dL_law_867 (by decide) (fun _ => ?_) (fun z => absurd rfl z)
  exact kk f2 H locs hI hR
set_option maxHeartbeats 4000000 in
set_option maxRecDepth 100000 in
theorem law_c24 {p : Program} {l : Launch} {e : Env} {s : State} {m : MethodId} {below : List Frame} {meth : Method} {c : Code} {b L : Nat} {xs : Nat → Int32} {G : mmG} {cells slots : Nat} (hl0 : l = G.1) (C0 : lw_At p s m meth c b L xs) (hn0 : mm_n0 G = s.heap.size) (hcs : cells ≤ 600000 ∧ slots ≤ 7302250) {i : Nat} (hi : i + 4 ≤ L) (hL : L ≤ 2048) {f : F3} {H : Heap} {locs : List Loc} {ls : Array Slot} (hR : mm_R G mm_NT f (GG f) s H locs) (hl : lv_has ls 4 [(0, .ref b), (1, .ref (ra G 0 0)), (2, .ref (ra G 20 0)), (3, .int (nI i))]) {Inv : F3 → Prop} (h : ST Inv (fun f => S_X6_tell f (xs (i + 1)) (xs (i + 2))) (fun f => S_X7_tell f (xs (i + 1)) (xs (i + 2))) f)
    (kk : ∀ (f : F3) (H : Heap) (locs : List Loc), Inv f → mm_R G mm_NT f (GG f) s H locs → W p l e room_1 s m #[Value.ref b] below meth c H locs cells slots (lw_Z below #[Value.ref b] s) (F0 m 1007 ls [])) : W p l e room_1 s m #[Value.ref b] below meth c H locs cells slots (lw_Z below #[Value.ref b] s) (F0 m 872 ls []) := by
  obtain ⟨hx, hb, hr, hml, hown, hts0, hX, hbl, hlocks, hgv⟩ := id C0
  have hts : ∀ w ∈ BIG, w.before #[Value.ref b] s = true := fun w hw => hts0 w (List.mem_filter.mp hw).1
  have hown : s.vm.findClass RL = some m.cls := hown
  have hbA : ¬ mm_A G b := by
    unfold mm_A
    omega
  have a1 : nI i + 1 = nI (i + 1) := nI_1 i
  have a2 : nI i + 2 = nI (i + 2) := nI_add i 2
  have a3 : nI i + 3 = nI (i + 3) := nI_add i 3
  have q1 : (nI (i + 1)).toNatClampNeg = i + 1 := nI_clamp (by omega)
  have q2 : (nI (i + 2)).toNatClampNeg = i + 2 := nI_clamp (by omega)
  have q3 : (nI (i + 3)).toNatClampNeg = i + 3 := nI_clamp (by omega)
  obtain ⟨r, f1, f2, h1, h2, hI⟩ := h
  refine lv_aload_n hx hb dL_law_872 rfl (lv_at hl 1 rfl) ?_
  refine lv_aload_n hx hb dL_law_873 rfl (lv_at hl 0 rfl) ?_
  refine lv_iload_n hx hb dL_law_874 rfl (lv_at hl 3 rfl) ?_
  refine lv_iconst (v := 1) hx hb dL_law_875 (by decide) ?_
  refine lv_iadd hx hb dL_law_876 ?_
  rw [a1]
  refine va_sld hx hb hX hbl hbA hR.2.2.1 (vp_in_nI (show i + 1 < L by omega) (by omega)) dL_law_877 ?_
  rw [q1]
  refine lv_aload_n hx hb dL_law_878 rfl (lv_at hl 0 rfl) ?_
  refine lv_iload_n hx hb dL_law_879 rfl (lv_at hl 3 rfl) ?_
  refine lv_iconst (v := 2) hx hb dL_law_880 (by decide) ?_
  refine lv_iadd hx hb dL_law_881 ?_
  rw [a2]
  refine va_sld hx hb hX hbl hbA hR.2.2.1 (vp_in_nI (show i + 2 < L by omega) (by omega)) dL_law_882 ?_
  rw [q2]
  refine mm_callG (v := some (.int r)) (f1 := f1) (d0 := 2) (rest := []) [.int (xs (i + 1)), .int (xs (i + 2))] hx hb hml hown hts hl0 hR 0 0 (T_X6_tell G h1) ws_X6_tell lkL_50 hd_X6_tell ⟨by decide, by decide⟩ hcs vl_0 rfl rfl rfl hl.1 rfl (Nat.le_of_ble_eq_true rfl) dL_law_883 (fun H locs hR => ?_)
  refine W.eq (g2 := F0 m 886 ls [.int r]) rfl ?_
  refine lv_aload_n hx hb dL_law_886 rfl (lv_at hl 2 rfl) ?_
  refine lv_aload_n hx hb dL_law_887 rfl (lv_at hl 0 rfl) ?_
  refine lv_iload_n hx hb dL_law_888 rfl (lv_at hl 3 rfl) ?_
  refine lv_iconst (v := 1) hx hb dL_law_889 (by decide) ?_
  refine lv_iadd hx hb dL_law_890 ?_
  rw [a1]
  refine va_sld hx hb hX hbl hbA hR.2.2.1 (vp_in_nI (show i + 1 < L by omega) (by omega)) dL_law_891 ?_
  rw [q1]
  refine lv_aload_n hx hb dL_law_892 rfl (lv_at hl 0 rfl) ?_
  refine lv_iload_n hx hb dL_law_893 rfl (lv_at hl 3 rfl) ?_
  refine lv_iconst (v := 2) hx hb dL_law_894 (by decide) ?_
  refine lv_iadd hx hb dL_law_895 ?_
  rw [a2]
  refine va_sld hx hb hX hbl hbA hR.2.2.1 (vp_in_nI (show i + 2 < L by omega) (by omega)) dL_law_896 ?_
  rw [q2]
  refine mm_callG (v := some (.int r)) (f1 := f2) (d0 := 1) (rest := [.int r]) [.int (xs (i + 1)), .int (xs (i + 2))] hx hb hml hown hts hl0 hR 20 0 (T_X7_tell G h2) ws_X7_tell lkL_51 hd_X7_tell ⟨by decide, by decide⟩ hcs vl_20 rfl rfl rfl hl.1 rfl (Nat.le_of_ble_eq_true rfl) dL_law_897 (fun H locs hR => ?_)
  refine W.eq (g2 := F0 m 900 ls [.int r, .int r]) rfl ?_
  refine lv_icmp_eq (tgt := 1007) hx hb dL_law_900 (by decide) (fun _ => ?_) (fun z => absurd rfl z)
  exact kk f2 H locs hI hR
set_option maxHeartbeats 4000000 in
set_option maxRecDepth 100000 in
theorem law_c25 {p : Program} {l : Launch} {e : Env} {s : State} {m : MethodId} {below : List Frame} {meth : Method} {c : Code} {b L : Nat} {xs : Nat → Int32} {G : mmG} {cells slots : Nat} (hl0 : l = G.1) (C0 : lw_At p s m meth c b L xs) (hn0 : mm_n0 G = s.heap.size) (hcs : cells ≤ 600000 ∧ slots ≤ 7302250) {i : Nat} (hi : i + 4 ≤ L) (hL : L ≤ 2048) {f : F3} {H : Heap} {locs : List Loc} {ls : Array Slot} (hR : mm_R G mm_NT f (GG f) s H locs) (hl : lv_has ls 4 [(0, .ref b), (1, .ref (ra G 0 0)), (2, .ref (ra G 20 0)), (3, .int (nI i))]) {Inv : F3 → Prop} (h : ST Inv (fun f => S_X6_tear f ) (fun f => S_X7_tear f ) f)
    (kk : ∀ (f : F3) (H : Heap) (locs : List Loc), Inv f → mm_R G mm_NT f (GG f) s H locs → W p l e room_1 s m #[Value.ref b] below meth c H locs cells slots (lw_Z below #[Value.ref b] s) (F0 m 1007 ls [])) : W p l e room_1 s m #[Value.ref b] below meth c H locs cells slots (lw_Z below #[Value.ref b] s) (F0 m 905 ls []) := by
  obtain ⟨hx, hb, hr, hml, hown, hts0, hX, hbl, hlocks, hgv⟩ := id C0
  have hts : ∀ w ∈ BIG, w.before #[Value.ref b] s = true := fun w hw => hts0 w (List.mem_filter.mp hw).1
  have hown : s.vm.findClass RL = some m.cls := hown
  have hbA : ¬ mm_A G b := by
    unfold mm_A
    omega
  have a1 : nI i + 1 = nI (i + 1) := nI_1 i
  have a2 : nI i + 2 = nI (i + 2) := nI_add i 2
  have a3 : nI i + 3 = nI (i + 3) := nI_add i 3
  have q1 : (nI (i + 1)).toNatClampNeg = i + 1 := nI_clamp (by omega)
  have q2 : (nI (i + 2)).toNatClampNeg = i + 2 := nI_clamp (by omega)
  have q3 : (nI (i + 3)).toNatClampNeg = i + 3 := nI_clamp (by omega)
  obtain ⟨r, f1, f2, h1, h2, hI⟩ := h
  refine lv_aload_n hx hb dL_law_905 rfl (lv_at hl 1 rfl) ?_
  refine mm_callG (v := some (.int r)) (f1 := f1) (d0 := 0) (rest := []) [] hx hb hml hown hts hl0 hR 0 0 (T_X6_tear G h1) ws_X6_tear lkL_52 hd_X6_tear ⟨by decide, by decide⟩ hcs vl_0 rfl rfl rfl hl.1 rfl (Nat.le_of_ble_eq_true rfl) dL_law_906 (fun H locs hR => ?_)
  refine W.eq (g2 := F0 m 909 ls [.int r]) rfl ?_
  refine lv_aload_n hx hb dL_law_909 rfl (lv_at hl 2 rfl) ?_
  refine mm_callG (v := some (.int r)) (f1 := f2) (d0 := 0) (rest := [.int r]) [] hx hb hml hown hts hl0 hR 20 0 (T_X7_tear G h2) ws_X7_tear lkL_53 hd_X7_tear ⟨by decide, by decide⟩ hcs vl_20 rfl rfl rfl hl.1 rfl (Nat.le_of_ble_eq_true rfl) dL_law_910 (fun H locs hR => ?_)
  refine W.eq (g2 := F0 m 913 ls [.int r, .int r]) rfl ?_
  refine lv_icmp_eq (tgt := 1007) hx hb dL_law_913 (by decide) (fun _ => ?_) (fun z => absurd rfl z)
  exact kk f2 H locs hI hR
set_option maxHeartbeats 4000000 in
set_option maxRecDepth 100000 in
theorem law_c26 {p : Program} {l : Launch} {e : Env} {s : State} {m : MethodId} {below : List Frame} {meth : Method} {c : Code} {b L : Nat} {xs : Nat → Int32} {G : mmG} {cells slots : Nat} (hl0 : l = G.1) (C0 : lw_At p s m meth c b L xs) (hn0 : mm_n0 G = s.heap.size) (hcs : cells ≤ 600000 ∧ slots ≤ 7302250) {i : Nat} (hi : i + 4 ≤ L) (hL : L ≤ 2048) {f : F3} {H : Heap} {locs : List Loc} {ls : Array Slot} (hR : mm_R G mm_NT f (GG f) s H locs) (hl : lv_has ls 4 [(0, .ref b), (1, .ref (ra G 0 0)), (2, .ref (ra G 20 0)), (3, .int (nI i))]) {Inv : F3 → Prop} (h : ST Inv (fun f => S_X6_row f (xs (i + 1))) (fun f => S_X7_row f (xs (i + 1))) f)
    (kk : ∀ (f : F3) (H : Heap) (locs : List Loc), Inv f → mm_R G mm_NT f (GG f) s H locs → W p l e room_1 s m #[Value.ref b] below meth c H locs cells slots (lw_Z below #[Value.ref b] s) (F0 m 1007 ls [])) : W p l e room_1 s m #[Value.ref b] below meth c H locs cells slots (lw_Z below #[Value.ref b] s) (F0 m 918 ls []) := by
  obtain ⟨hx, hb, hr, hml, hown, hts0, hX, hbl, hlocks, hgv⟩ := id C0
  have hts : ∀ w ∈ BIG, w.before #[Value.ref b] s = true := fun w hw => hts0 w (List.mem_filter.mp hw).1
  have hown : s.vm.findClass RL = some m.cls := hown
  have hbA : ¬ mm_A G b := by
    unfold mm_A
    omega
  have a1 : nI i + 1 = nI (i + 1) := nI_1 i
  have a2 : nI i + 2 = nI (i + 2) := nI_add i 2
  have a3 : nI i + 3 = nI (i + 3) := nI_add i 3
  have q1 : (nI (i + 1)).toNatClampNeg = i + 1 := nI_clamp (by omega)
  have q2 : (nI (i + 2)).toNatClampNeg = i + 2 := nI_clamp (by omega)
  have q3 : (nI (i + 3)).toNatClampNeg = i + 3 := nI_clamp (by omega)
  obtain ⟨r, f1, f2, h1, h2, hI⟩ := h
  refine lv_aload_n hx hb dL_law_918 rfl (lv_at hl 1 rfl) ?_
  refine lv_aload_n hx hb dL_law_919 rfl (lv_at hl 0 rfl) ?_
  refine lv_iload_n hx hb dL_law_920 rfl (lv_at hl 3 rfl) ?_
  refine lv_iconst (v := 1) hx hb dL_law_921 (by decide) ?_
  refine lv_iadd hx hb dL_law_922 ?_
  rw [a1]
  refine va_sld hx hb hX hbl hbA hR.2.2.1 (vp_in_nI (show i + 1 < L by omega) (by omega)) dL_law_923 ?_
  rw [q1]
  refine mm_callG (v := some (.int r)) (f1 := f1) (d0 := 2) (rest := []) [.int (xs (i + 1))] hx hb hml hown hts hl0 hR 0 0 (T_X6_row G h1) ws_X6_row lkL_54 hd_X6_row ⟨by decide, by decide⟩ hcs vl_0 rfl rfl rfl hl.1 rfl (Nat.le_of_ble_eq_true rfl) dL_law_924 (fun H locs hR => ?_)
  refine W.eq (g2 := F0 m 927 ls [.int r]) rfl ?_
  refine lv_aload_n hx hb dL_law_927 rfl (lv_at hl 2 rfl) ?_
  refine lv_aload_n hx hb dL_law_928 rfl (lv_at hl 0 rfl) ?_
  refine lv_iload_n hx hb dL_law_929 rfl (lv_at hl 3 rfl) ?_
  refine lv_iconst (v := 1) hx hb dL_law_930 (by decide) ?_
  refine lv_iadd hx hb dL_law_931 ?_
  rw [a1]
  refine va_sld hx hb hX hbl hbA hR.2.2.1 (vp_in_nI (show i + 1 < L by omega) (by omega)) dL_law_932 ?_
  rw [q1]
  refine mm_callG (v := some (.int r)) (f1 := f2) (d0 := 1) (rest := [.int r]) [.int (xs (i + 1))] hx hb hml hown hts hl0 hR 20 0 (T_X7_row G h2) ws_X7_row lkL_55 hd_X7_row ⟨by decide, by decide⟩ hcs vl_20 rfl rfl rfl hl.1 rfl (Nat.le_of_ble_eq_true rfl) dL_law_933 (fun H locs hR => ?_)
  refine W.eq (g2 := F0 m 936 ls [.int r, .int r]) rfl ?_
  refine lv_icmp_eq (tgt := 1007) hx hb dL_law_936 (by decide) (fun _ => ?_) (fun z => absurd rfl z)
  exact kk f2 H locs hI hR
set_option maxHeartbeats 4000000 in
set_option maxRecDepth 100000 in
theorem law_c27 {p : Program} {l : Launch} {e : Env} {s : State} {m : MethodId} {below : List Frame} {meth : Method} {c : Code} {b L : Nat} {xs : Nat → Int32} {G : mmG} {cells slots : Nat} (hl0 : l = G.1) (C0 : lw_At p s m meth c b L xs) (hn0 : mm_n0 G = s.heap.size) (hcs : cells ≤ 600000 ∧ slots ≤ 7302250) {i : Nat} (hi : i + 4 ≤ L) (hL : L ≤ 2048) {f : F3} {H : Heap} {locs : List Loc} {ls : Array Slot} (hR : mm_R G mm_NT f (GG f) s H locs) (hl : lv_has ls 4 [(0, .ref b), (1, .ref (ra G 0 0)), (2, .ref (ra G 20 0)), (3, .int (nI i))]) {Inv : F3 → Prop} (h : ST Inv (fun f => S_X6_copy f (xs (i + 1)) (xs (i + 2)) (xs (i + 3))) (fun f => S_X7_copy f (xs (i + 1)) (xs (i + 2)) (xs (i + 3))) f)
    (kk : ∀ (f : F3) (H : Heap) (locs : List Loc), Inv f → mm_R G mm_NT f (GG f) s H locs → W p l e room_1 s m #[Value.ref b] below meth c H locs cells slots (lw_Z below #[Value.ref b] s) (F0 m 1007 ls [])) : W p l e room_1 s m #[Value.ref b] below meth c H locs cells slots (lw_Z below #[Value.ref b] s) (F0 m 941 ls []) := by
  obtain ⟨hx, hb, hr, hml, hown, hts0, hX, hbl, hlocks, hgv⟩ := id C0
  have hts : ∀ w ∈ BIG, w.before #[Value.ref b] s = true := fun w hw => hts0 w (List.mem_filter.mp hw).1
  have hown : s.vm.findClass RL = some m.cls := hown
  have hbA : ¬ mm_A G b := by
    unfold mm_A
    omega
  have a1 : nI i + 1 = nI (i + 1) := nI_1 i
  have a2 : nI i + 2 = nI (i + 2) := nI_add i 2
  have a3 : nI i + 3 = nI (i + 3) := nI_add i 3
  have q1 : (nI (i + 1)).toNatClampNeg = i + 1 := nI_clamp (by omega)
  have q2 : (nI (i + 2)).toNatClampNeg = i + 2 := nI_clamp (by omega)
  have q3 : (nI (i + 3)).toNatClampNeg = i + 3 := nI_clamp (by omega)
  obtain ⟨r, f1, f2, h1, h2, hI⟩ := h
  refine lv_aload_n hx hb dL_law_941 rfl (lv_at hl 1 rfl) ?_
  refine lv_aload_n hx hb dL_law_942 rfl (lv_at hl 0 rfl) ?_
  refine lv_iload_n hx hb dL_law_943 rfl (lv_at hl 3 rfl) ?_
  refine lv_iconst (v := 1) hx hb dL_law_944 (by decide) ?_
  refine lv_iadd hx hb dL_law_945 ?_
  rw [a1]
  refine va_sld hx hb hX hbl hbA hR.2.2.1 (vp_in_nI (show i + 1 < L by omega) (by omega)) dL_law_946 ?_
  rw [q1]
  refine lv_aload_n hx hb dL_law_947 rfl (lv_at hl 0 rfl) ?_
  refine lv_iload_n hx hb dL_law_948 rfl (lv_at hl 3 rfl) ?_
  refine lv_iconst (v := 2) hx hb dL_law_949 (by decide) ?_
  refine lv_iadd hx hb dL_law_950 ?_
  rw [a2]
  refine va_sld hx hb hX hbl hbA hR.2.2.1 (vp_in_nI (show i + 2 < L by omega) (by omega)) dL_law_951 ?_
  rw [q2]
  refine lv_aload_n hx hb dL_law_952 rfl (lv_at hl 0 rfl) ?_
  refine lv_iload_n hx hb dL_law_953 rfl (lv_at hl 3 rfl) ?_
  refine lv_iconst (v := 3) hx hb dL_law_954 (by decide) ?_
  refine lv_iadd hx hb dL_law_955 ?_
  rw [a3]
  refine va_sld hx hb hX hbl hbA hR.2.2.1 (vp_in_nI (show i + 3 < L by omega) (by omega)) dL_law_956 ?_
  rw [q3]
  refine mm_callG (v := some (.int r)) (f1 := f1) (d0 := 2) (rest := []) [.int (xs (i + 1)), .int (xs (i + 2)), .int (xs (i + 3))] hx hb hml hown hts hl0 hR 0 0 (T_X6_copy G h1) ws_X6_copy lkL_56 hd_X6_copy ⟨by decide, by decide⟩ hcs vl_0 rfl rfl rfl hl.1 rfl (Nat.le_of_ble_eq_true rfl) dL_law_957 (fun H locs hR => ?_)
  refine W.eq (g2 := F0 m 960 ls [.int r]) rfl ?_
  refine lv_aload_n hx hb dL_law_960 rfl (lv_at hl 2 rfl) ?_
  refine lv_aload_n hx hb dL_law_961 rfl (lv_at hl 0 rfl) ?_
  refine lv_iload_n hx hb dL_law_962 rfl (lv_at hl 3 rfl) ?_
  refine lv_iconst (v := 1) hx hb dL_law_963 (by decide) ?_
  refine lv_iadd hx hb dL_law_964 ?_
  rw [a1]
  refine va_sld hx hb hX hbl hbA hR.2.2.1 (vp_in_nI (show i + 1 < L by omega) (by omega)) dL_law_965 ?_
  rw [q1]
  refine lv_aload_n hx hb dL_law_966 rfl (lv_at hl 0 rfl) ?_
  refine lv_iload_n hx hb dL_law_967 rfl (lv_at hl 3 rfl) ?_
  refine lv_iconst (v := 2) hx hb dL_law_968 (by decide) ?_
  refine lv_iadd hx hb dL_law_969 ?_
  rw [a2]
  refine va_sld hx hb hX hbl hbA hR.2.2.1 (vp_in_nI (show i + 2 < L by omega) (by omega)) dL_law_970 ?_
  rw [q2]
  refine lv_aload_n hx hb dL_law_971 rfl (lv_at hl 0 rfl) ?_
  refine lv_iload_n hx hb dL_law_972 rfl (lv_at hl 3 rfl) ?_
  refine lv_iconst (v := 3) hx hb dL_law_973 (by decide) ?_
  refine lv_iadd hx hb dL_law_974 ?_
  rw [a3]
  refine va_sld hx hb hX hbl hbA hR.2.2.1 (vp_in_nI (show i + 3 < L by omega) (by omega)) dL_law_975 ?_
  rw [q3]
  refine mm_callG (v := some (.int r)) (f1 := f2) (d0 := 1) (rest := [.int r]) [.int (xs (i + 1)), .int (xs (i + 2)), .int (xs (i + 3))] hx hb hml hown hts hl0 hR 20 0 (T_X7_copy G h2) ws_X7_copy lkL_57 hd_X7_copy ⟨by decide, by decide⟩ hcs vl_20 rfl rfl rfl hl.1 rfl (Nat.le_of_ble_eq_true rfl) dL_law_976 (fun H locs hR => ?_)
  refine W.eq (g2 := F0 m 979 ls [.int r, .int r]) rfl ?_
  refine lv_icmp_eq (tgt := 1007) hx hb dL_law_979 (by decide) (fun _ => ?_) (fun z => absurd rfl z)
  exact kk f2 H locs hI hR
set_option maxHeartbeats 4000000 in
set_option maxRecDepth 100000 in
theorem law_c28 {p : Program} {l : Launch} {e : Env} {s : State} {m : MethodId} {below : List Frame} {meth : Method} {c : Code} {b L : Nat} {xs : Nat → Int32} {G : mmG} {cells slots : Nat} (hl0 : l = G.1) (C0 : lw_At p s m meth c b L xs) (hn0 : mm_n0 G = s.heap.size) (hcs : cells ≤ 600000 ∧ slots ≤ 7302250) {i : Nat} (hi : i + 4 ≤ L) (hL : L ≤ 2048) {f : F3} {H : Heap} {locs : List Loc} {ls : Array Slot} (hR : mm_R G mm_NT f (GG f) s H locs) (hl : lv_has ls 4 [(0, .ref b), (1, .ref (ra G 0 0)), (2, .ref (ra G 20 0)), (3, .int (nI i))]) {Inv : F3 → Prop} (h : ST Inv (fun f => S_X6_status f (xs (i + 1))) (fun f => S_X7_status f (xs (i + 1))) f)
    (kk : ∀ (f : F3) (H : Heap) (locs : List Loc), Inv f → mm_R G mm_NT f (GG f) s H locs → W p l e room_1 s m #[Value.ref b] below meth c H locs cells slots (lw_Z below #[Value.ref b] s) (F0 m 1007 ls [])) : W p l e room_1 s m #[Value.ref b] below meth c H locs cells slots (lw_Z below #[Value.ref b] s) (F0 m 984 ls []) := by
  obtain ⟨hx, hb, hr, hml, hown, hts0, hX, hbl, hlocks, hgv⟩ := id C0
  have hts : ∀ w ∈ BIG, w.before #[Value.ref b] s = true := fun w hw => hts0 w (List.mem_filter.mp hw).1
  have hown : s.vm.findClass RL = some m.cls := hown
  have hbA : ¬ mm_A G b := by
    unfold mm_A
    omega
  have a1 : nI i + 1 = nI (i + 1) := nI_1 i
  have a2 : nI i + 2 = nI (i + 2) := nI_add i 2
  have a3 : nI i + 3 = nI (i + 3) := nI_add i 3
  have q1 : (nI (i + 1)).toNatClampNeg = i + 1 := nI_clamp (by omega)
  have q2 : (nI (i + 2)).toNatClampNeg = i + 2 := nI_clamp (by omega)
  have q3 : (nI (i + 3)).toNatClampNeg = i + 3 := nI_clamp (by omega)
  obtain ⟨r, f1, f2, h1, h2, hI⟩ := h
  refine lv_aload_n hx hb dL_law_984 rfl (lv_at hl 1 rfl) ?_
  refine lv_aload_n hx hb dL_law_985 rfl (lv_at hl 0 rfl) ?_
  refine lv_iload_n hx hb dL_law_986 rfl (lv_at hl 3 rfl) ?_
  refine lv_iconst (v := 1) hx hb dL_law_987 (by decide) ?_
  refine lv_iadd hx hb dL_law_988 ?_
  rw [a1]
  refine va_sld hx hb hX hbl hbA hR.2.2.1 (vp_in_nI (show i + 1 < L by omega) (by omega)) dL_law_989 ?_
  rw [q1]
  refine mm_callG (v := some (.int r)) (f1 := f1) (d0 := 2) (rest := []) [.int (xs (i + 1))] hx hb hml hown hts hl0 hR 0 0 (T_X6_status G h1) ws_X6_status lkL_58 hd_X6_status ⟨by decide, by decide⟩ hcs vl_0 rfl rfl rfl hl.1 rfl (Nat.le_of_ble_eq_true rfl) dL_law_990 (fun H locs hR => ?_)
  refine W.eq (g2 := F0 m 993 ls [.int r]) rfl ?_
  refine lv_aload_n hx hb dL_law_993 rfl (lv_at hl 2 rfl) ?_
  refine lv_aload_n hx hb dL_law_994 rfl (lv_at hl 0 rfl) ?_
  refine lv_iload_n hx hb dL_law_995 rfl (lv_at hl 3 rfl) ?_
  refine lv_iconst (v := 1) hx hb dL_law_996 (by decide) ?_
  refine lv_iadd hx hb dL_law_997 ?_
  rw [a1]
  refine va_sld hx hb hX hbl hbA hR.2.2.1 (vp_in_nI (show i + 1 < L by omega) (by omega)) dL_law_998 ?_
  rw [q1]
  refine mm_callG (v := some (.int r)) (f1 := f2) (d0 := 1) (rest := [.int r]) [.int (xs (i + 1))] hx hb hml hown hts hl0 hR 20 0 (T_X7_status G h2) ws_X7_status lkL_59 hd_X7_status ⟨by decide, by decide⟩ hcs vl_20 rfl rfl rfl hl.1 rfl (Nat.le_of_ble_eq_true rfl) dL_law_999 (fun H locs hR => ?_)
  refine W.eq (g2 := F0 m 1002 ls [.int r, .int r]) rfl ?_
  refine lv_icmp_eq (tgt := 1007) hx hb dL_law_1002 (by decide) (fun _ => ?_) (fun z => absurd rfl z)
  exact kk f2 H locs hI hR
set_option maxHeartbeats 4000000 in
set_option maxRecDepth 100000 in
theorem law_loop {p : Program} {l : Launch} {e : Env} {s : State} {m : MethodId} {below : List Frame} {meth : Method} {c : Code} {b L : Nat} {xs : Nat → Int32} {G : mmG} {cells slots : Nat} (hl0 : l = G.1) (C0 : lw_At p s m meth c b L xs) (hn0 : mm_n0 G = s.heap.size) (hcs : cells ≤ 600000 ∧ slots ≤ 7302250) (hL : L ≤ 2048) (Inv : Nat → F3 → Prop) (hmono : ∀ (j : Nat) (f : F3), Inv j f → Inv (j + 4) f)
    (h0 : ∀ (j : Nat) (f : F3) (a b c : Int32), j + 4 ≤ 2048 → Inv j f → ST (Inv (j + 4)) (fun f => S_X6_cell f a b (bz c)) (fun f => S_X7_cell f a b (bz c)) f)
    (h1 : ∀ (j : Nat) (f : F3) (a b c : Int32), j + 4 ≤ 2048 → Inv j f → ST (Inv (j + 4)) (fun f => S_X6_look f a b) (fun f => S_X7_look f a b) f)
    (h2 : ∀ (j : Nat) (f : F3) (a b c : Int32), j + 4 ≤ 2048 → Inv j f → ST (Inv (j + 4)) (fun f => S_X6_thick f a b) (fun f => S_X7_thick f a b) f)
    (h3 : ∀ (j : Nat) (f : F3) (a b c : Int32), j + 4 ≤ 2048 → Inv j f → ST (Inv (j + 4)) (fun f => S_X6_read f a) (fun f => S_X7_read f a) f)
    (h4 : ∀ (j : Nat) (f : F3) (a b c : Int32), j + 4 ≤ 2048 → Inv j f → ST (Inv (j + 4)) (fun f => S_X6_bears f a b) (fun f => S_X7_bears f a b) f)
    (h5 : ∀ (j : Nat) (f : F3) (a b c : Int32), j + 4 ≤ 2048 → Inv j f → ST (Inv (j + 4)) (fun f => S_X6_weather f a b) (fun f => S_X7_weather f a b) f)
    (h6 : ∀ (j : Nat) (f : F3) (a b c : Int32), j + 4 ≤ 2048 → Inv j f → ST (Inv (j + 4)) (fun f => S_X6_cold f ) (fun f => S_X7_cold f ) f)
    (h7 : ∀ (j : Nat) (f : F3) (a b c : Int32), j + 4 ≤ 2048 → Inv j f → ST (Inv (j + 4)) (fun f => S_X6_heat f a) (fun f => S_X7_heat f a) f)
    (h8 : ∀ (j : Nat) (f : F3) (a b c : Int32), j + 4 ≤ 2048 → Inv j f → ST (Inv (j + 4)) (fun f => S_X6_sweep f a) (fun f => S_X7_sweep f a) f)
    (h9 : ∀ (j : Nat) (f : F3) (a b c : Int32), j + 4 ≤ 2048 → Inv j f → ST (Inv (j + 4)) (fun f => S_X6_flood f a) (fun f => S_X7_flood f a) f)
    (h10 : ∀ (j : Nat) (f : F3) (a b c : Int32), j + 4 ≤ 2048 → Inv j f → ST (Inv (j + 4)) (fun f => S_X6_bypass f a) (fun f => S_X7_bypass f a) f)
    (h11 : ∀ (j : Nat) (f : F3) (a b c : Int32), j + 4 ≤ 2048 → Inv j f → ST (Inv (j + 4)) (fun f => S_X6_snow f a) (fun f => S_X7_snow f a) f)
    (h12 : ∀ (j : Nat) (f : F3) (a b c : Int32), j + 4 ≤ 2048 → Inv j f → ST (Inv (j + 4)) (fun f => S_X6_load f a b c) (fun f => S_X7_load f a b c) f)
    (h13 : ∀ (j : Nat) (f : F3) (a b c : Int32), j + 4 ≤ 2048 → Inv j f → ST (Inv (j + 4)) (fun f => S_X6_of f a b) (fun f => S_X7_of f a b) f)
    (h14 : ∀ (j : Nat) (f : F3) (a b c : Int32), j + 4 ≤ 2048 → Inv j f → ST (Inv (j + 4)) (fun f => S_X6_may f a b) (fun f => S_X7_may f a b) f)
    (h15 : ∀ (j : Nat) (f : F3) (a b c : Int32), j + 4 ≤ 2048 → Inv j f → ST (Inv (j + 4)) (fun f => S_X6_why f a b) (fun f => S_X7_why f a b) f)
    (h16 : ∀ (j : Nat) (f : F3) (a b c : Int32), j + 4 ≤ 2048 → Inv j f → ST (Inv (j + 4)) (fun f => S_X6_turn f a) (fun f => S_X7_turn f a) f)
    (h17 : ∀ (j : Nat) (f : F3) (a b c : Int32), j + 4 ≤ 2048 → Inv j f → ST (Inv (j + 4)) (fun f => S_X6_run f a) (fun f => S_X7_run f a) f)
    (h18 : ∀ (j : Nat) (f : F3) (a b c : Int32), j + 4 ≤ 2048 → Inv j f → ST (Inv (j + 4)) (fun f => S_X6_thaw f a b) (fun f => S_X7_thaw f a b) f)
    (h19 : ∀ (j : Nat) (f : F3) (a b c : Int32), j + 4 ≤ 2048 → Inv j f → ST (Inv (j + 4)) (fun f => S_X6_feed f a b) (fun f => S_X7_feed f a b) f)
    (h20 : ∀ (j : Nat) (f : F3) (a b c : Int32), j + 4 ≤ 2048 → Inv j f → ST (Inv (j + 4)) (fun f => S_X6_wipe f ) (fun f => S_X7_wipe f ) f)
    (h21 : ∀ (j : Nat) (f : F3) (a b c : Int32), j + 4 ≤ 2048 → Inv j f → ST (Inv (j + 4)) (fun f => S_X6_rule f a b) (fun f => S_X7_rule f a b) f)
    (h22 : ∀ (j : Nat) (f : F3) (a b c : Int32), j + 4 ≤ 2048 → Inv j f → ST (Inv (j + 4)) (fun f => S_X6_said f a b c) (fun f => S_X7_said f a b c) f)
    (h23 : ∀ (j : Nat) (f : F3) (a b c : Int32), j + 4 ≤ 2048 → Inv j f → ST (Inv (j + 4)) (fun f => S_X6_count f a) (fun f => S_X7_count f a) f)
    (h24 : ∀ (j : Nat) (f : F3) (a b c : Int32), j + 4 ≤ 2048 → Inv j f → ST (Inv (j + 4)) (fun f => S_X6_tell f a b) (fun f => S_X7_tell f a b) f)
    (h25 : ∀ (j : Nat) (f : F3) (a b c : Int32), j + 4 ≤ 2048 → Inv j f → ST (Inv (j + 4)) (fun f => S_X6_tear f ) (fun f => S_X7_tear f ) f)
    (h26 : ∀ (j : Nat) (f : F3) (a b c : Int32), j + 4 ≤ 2048 → Inv j f → ST (Inv (j + 4)) (fun f => S_X6_row f a) (fun f => S_X7_row f a) f)
    (h27 : ∀ (j : Nat) (f : F3) (a b c : Int32), j + 4 ≤ 2048 → Inv j f → ST (Inv (j + 4)) (fun f => S_X6_copy f a b c) (fun f => S_X7_copy f a b c) f)
    (h28 : ∀ (j : Nat) (f : F3) (a b c : Int32), j + 4 ≤ 2048 → Inv j f → ST (Inv (j + 4)) (fun f => S_X6_status f a) (fun f => S_X7_status f a) f) :
    ∀ (n i : Nat) (f : F3) (H : Heap) (locs : List Loc) (ls : Array Slot), i ≤ L → L + 4 ≤ i + 4 * n → Inv i f → mm_R G mm_NT f (GG f) s H locs → lv_has ls 4 [(0, .ref b), (1, .ref (ra G 0 0)), (2, .ref (ra G 20 0)), (3, .int (nI i))] → W p l e room_1 s m #[Value.ref b] below meth c H locs cells slots (lw_Z below #[Value.ref b] s) (F0 m 18 ls []) := by
  obtain ⟨hx, hb, hr, hml, hown, hts0, hX, hbl, hlocks, hgv⟩ := id C0
  have hbA : ¬ mm_A G b := by
    unfold mm_A
    omega
  intro n
  induction n with
  | zero =>
    intro i f H locs ls h1 h2
    exact absurd h2 (by omega)
  | succ n ih =>
    intro i f H locs ls hi hin hI hR hl
    have cmp : (nI L - 4 < nI i) ↔ L < i + 4 := by
      rw [Int32.lt_iff_toInt_lt, show (4 : Int32) = nI 4 from rfl, pk_sub_toInt (by omega) (by omega), nI_toInt (by omega)]
      omega
    refine lv_iload_n hx hb dL_law_18 rfl (lv_at hl 3 rfl) ?_
    refine lv_aload_n hx hb dL_law_19 rfl (lv_at hl 0 rfl) ?_
    refine va_slen hx hb hX hbl hbA hR.2.2.1 dL_law_20 ?_
    refine lv_iconst (v := 4) hx hb dL_law_21 (by decide) ?_
    refine lv_isub hx hb dL_law_22 ?_
    refine lv_icmp_gt (tgt := 1013) hx hb dL_law_23 (by decide) (fun z => ?_) (fun z => ?_)
    · refine lv_iconst (v := 1) hx hb dL_law_1013 (by decide) ?_
      refine va_forget (fun q hq => by have := hR.2.2.1.2.2 q hq; unfold mm_A at this; omega) ?_
      refine W.widen (k := 600000) (n := 7302250) hcs.1 hcs.2 ?_
      exact lw_ret hx hb hr hlocks dL_law_1014
    · have hi4 : i + 4 ≤ L := by
        rcases Nat.lt_or_ge L (i + 4) with q | q
        · exact absurd (cmp.mpr q) z
        · exact q
      have q0 : (nI i).toNatClampNeg = i := nI_clamp (by omega)
      have kk : ∀ (f : F3) (H : Heap) (locs : List Loc), Inv (i + 4) f → mm_R G mm_NT f (GG f) s H locs → W p l e room_1 s m #[Value.ref b] below meth c H locs cells slots (lw_Z below #[Value.ref b] s) (F0 m 1007 ls []) := by
        intro f H locs hI hR
        refine lv_iinc (v := nI (i + 4)) (lv' := [(3, .int (nI (i + 4))), (0, .ref b), (1, .ref (ra G 0 0)), (2, .ref (ra G 20 0))]) hx hb dL_law_1007 hl (k := 3) rfl (nI_add i 4) (by decide) rfl (fun ls hl => ?_)
        refine lv_goto (tgt := 18) hx hb dL_law_1010 (by decide) ?_
        exact ih (i + 4) f H locs ls hi4 (by omega) hI hR (lv_sub hl [1, 2, 3, 0] rfl)
      refine lv_aload_n hx hb dL_law_26 rfl (lv_at hl 0 rfl) ?_
      refine lv_iload_n hx hb dL_law_27 rfl (lv_at hl 3 rfl) ?_
      refine va_sld hx hb hX hbl hbA hR.2.2.1 (vp_in_nI (show i < L by omega) (by omega)) dL_law_28 ?_
      refine lv_bipush (v := 31) hx hb dL_law_29 (by decide) ?_
      refine lv_iand hx hb dL_law_31 ?_
      refine lv_topi (fun w ew => ?_)
      by_cases w0 : w = 0
      · rw [w0]
        refine lv_tableIn (off := 132) (tgt := 164) hx hb dL_law_32 (by decide) (by decide) (by decide +kernel) (by decide) ?_
        exact law_c0 hl0 C0 hn0 hcs hi4 hL hR hl (h0 i f (xs (i + 1)) (xs (i + 2)) (xs (i + 3)) (by omega) hI) kk
      by_cases w1 : w = 1
      · rw [w1]
        refine lv_tableIn (off := 191) (tgt := 223) hx hb dL_law_32 (by decide) (by decide) (by decide +kernel) (by decide) ?_
        exact law_c1 hl0 C0 hn0 hcs hi4 hL hR hl (h1 i f (xs (i + 1)) (xs (i + 2)) (xs (i + 3)) (by omega) hI) kk
      by_cases w2 : w = 2
      · rw [w2]
        refine lv_tableIn (off := 224) (tgt := 256) hx hb dL_law_32 (by decide) (by decide) (by decide +kernel) (by decide) ?_
        exact law_c2 hl0 C0 hn0 hcs hi4 hL hR hl (h2 i f (xs (i + 1)) (xs (i + 2)) (xs (i + 3)) (by omega) hI) kk
      by_cases w3 : w = 3
      · rw [w3]
        refine lv_tableIn (off := 257) (tgt := 289) hx hb dL_law_32 (by decide) (by decide) (by decide +kernel) (by decide) ?_
        exact law_c3 hl0 C0 hn0 hcs hi4 hL hR hl (h3 i f (xs (i + 1)) (xs (i + 2)) (xs (i + 3)) (by omega) hI) kk
      by_cases w4 : w = 4
      · rw [w4]
        refine lv_tableIn (off := 280) (tgt := 312) hx hb dL_law_32 (by decide) (by decide) (by decide +kernel) (by decide) ?_
        exact law_c4 hl0 C0 hn0 hcs hi4 hL hR hl (h4 i f (xs (i + 1)) (xs (i + 2)) (xs (i + 3)) (by omega) hI) kk
      by_cases w5 : w = 5
      · rw [w5]
        refine lv_tableIn (off := 313) (tgt := 345) hx hb dL_law_32 (by decide) (by decide) (by decide +kernel) (by decide) ?_
        exact law_c5 hl0 C0 hn0 hcs hi4 hL hR hl (h5 i f (xs (i + 1)) (xs (i + 2)) (xs (i + 3)) (by omega) hI) kk
      by_cases w6 : w = 6
      · rw [w6]
        refine lv_tableIn (off := 346) (tgt := 378) hx hb dL_law_32 (by decide) (by decide) (by decide +kernel) (by decide) ?_
        exact law_c6 hl0 C0 hn0 hcs hi4 hL hR hl (h6 i f (xs (i + 1)) (xs (i + 2)) (xs (i + 3)) (by omega) hI) kk
      by_cases w7 : w = 7
      · rw [w7]
        refine lv_tableIn (off := 359) (tgt := 391) hx hb dL_law_32 (by decide) (by decide) (by decide +kernel) (by decide) ?_
        exact law_c7 hl0 C0 hn0 hcs hi4 hL hR hl (h7 i f (xs (i + 1)) (xs (i + 2)) (xs (i + 3)) (by omega) hI) kk
      by_cases w8 : w = 8
      · rw [w8]
        refine lv_tableIn (off := 382) (tgt := 414) hx hb dL_law_32 (by decide) (by decide) (by decide +kernel) (by decide) ?_
        exact law_c8 hl0 C0 hn0 hcs hi4 hL hR hl (h8 i f (xs (i + 1)) (xs (i + 2)) (xs (i + 3)) (by omega) hI) kk
      by_cases w9 : w = 9
      · rw [w9]
        refine lv_tableIn (off := 405) (tgt := 437) hx hb dL_law_32 (by decide) (by decide) (by decide +kernel) (by decide) ?_
        exact law_c9 hl0 C0 hn0 hcs hi4 hL hR hl (h9 i f (xs (i + 1)) (xs (i + 2)) (xs (i + 3)) (by omega) hI) kk
      by_cases w10 : w = 10
      · rw [w10]
        refine lv_tableIn (off := 428) (tgt := 460) hx hb dL_law_32 (by decide) (by decide) (by decide +kernel) (by decide) ?_
        exact law_c10 hl0 C0 hn0 hcs hi4 hL hR hl (h10 i f (xs (i + 1)) (xs (i + 2)) (xs (i + 3)) (by omega) hI) kk
      by_cases w11 : w = 11
      · rw [w11]
        refine lv_tableIn (off := 451) (tgt := 483) hx hb dL_law_32 (by decide) (by decide) (by decide +kernel) (by decide) ?_
        exact law_c11 hl0 C0 hn0 hcs hi4 hL hR hl (h11 i f (xs (i + 1)) (xs (i + 2)) (xs (i + 3)) (by omega) hI) kk
      by_cases w12 : w = 12
      · rw [w12]
        refine lv_tableIn (off := 474) (tgt := 506) hx hb dL_law_32 (by decide) (by decide) (by decide +kernel) (by decide) ?_
        exact law_c12 hl0 C0 hn0 hcs hi4 hL hR hl (h12 i f (xs (i + 1)) (xs (i + 2)) (xs (i + 3)) (by omega) hI) kk
      by_cases w13 : w = 13
      · rw [w13]
        refine lv_tableIn (off := 517) (tgt := 549) hx hb dL_law_32 (by decide) (by decide) (by decide +kernel) (by decide) ?_
        exact law_c13 hl0 C0 hn0 hcs hi4 hL hR hl (h13 i f (xs (i + 1)) (xs (i + 2)) (xs (i + 3)) (by omega) hI) kk
      by_cases w14 : w = 14
      · rw [w14]
        refine lv_tableIn (off := 550) (tgt := 582) hx hb dL_law_32 (by decide) (by decide) (by decide +kernel) (by decide) ?_
        exact law_c14 hl0 C0 hn0 hcs hi4 hL hR hl (h14 i f (xs (i + 1)) (xs (i + 2)) (xs (i + 3)) (by omega) hI) kk
      by_cases w15 : w = 15
      · rw [w15]
        refine lv_tableIn (off := 583) (tgt := 615) hx hb dL_law_32 (by decide) (by decide) (by decide +kernel) (by decide) ?_
        exact law_c15 hl0 C0 hn0 hcs hi4 hL hR hl (h15 i f (xs (i + 1)) (xs (i + 2)) (xs (i + 3)) (by omega) hI) kk
      by_cases w16 : w = 16
      · rw [w16]
        refine lv_tableIn (off := 616) (tgt := 648) hx hb dL_law_32 (by decide) (by decide) (by decide +kernel) (by decide) ?_
        exact law_c16 hl0 C0 hn0 hcs hi4 hL hR hl (h16 i f (xs (i + 1)) (xs (i + 2)) (xs (i + 3)) (by omega) hI) kk
      by_cases w17 : w = 17
      · rw [w17]
        refine lv_tableIn (off := 639) (tgt := 671) hx hb dL_law_32 (by decide) (by decide) (by decide +kernel) (by decide) ?_
        exact law_c17 hl0 C0 hn0 hcs hi4 hL hR hl (h17 i f (xs (i + 1)) (xs (i + 2)) (xs (i + 3)) (by omega) hI) kk
      by_cases w18 : w = 18
      · rw [w18]
        refine lv_tableIn (off := 662) (tgt := 694) hx hb dL_law_32 (by decide) (by decide) (by decide +kernel) (by decide) ?_
        exact law_c18 hl0 C0 hn0 hcs hi4 hL hR hl (h18 i f (xs (i + 1)) (xs (i + 2)) (xs (i + 3)) (by omega) hI) kk
      by_cases w19 : w = 19
      · rw [w19]
        refine lv_tableIn (off := 695) (tgt := 727) hx hb dL_law_32 (by decide) (by decide) (by decide +kernel) (by decide) ?_
        exact law_c19 hl0 C0 hn0 hcs hi4 hL hR hl (h19 i f (xs (i + 1)) (xs (i + 2)) (xs (i + 3)) (by omega) hI) kk
      by_cases w20 : w = 20
      · rw [w20]
        refine lv_tableIn (off := 728) (tgt := 760) hx hb dL_law_32 (by decide) (by decide) (by decide +kernel) (by decide) ?_
        exact law_c20 hl0 C0 hn0 hcs hi4 hL hR hl (h20 i f (xs (i + 1)) (xs (i + 2)) (xs (i + 3)) (by omega) hI) kk
      by_cases w21 : w = 21
      · rw [w21]
        refine lv_tableIn (off := 741) (tgt := 773) hx hb dL_law_32 (by decide) (by decide) (by decide +kernel) (by decide) ?_
        exact law_c21 hl0 C0 hn0 hcs hi4 hL hR hl (h21 i f (xs (i + 1)) (xs (i + 2)) (xs (i + 3)) (by omega) hI) kk
      by_cases w22 : w = 22
      · rw [w22]
        refine lv_tableIn (off := 774) (tgt := 806) hx hb dL_law_32 (by decide) (by decide) (by decide +kernel) (by decide) ?_
        exact law_c22 hl0 C0 hn0 hcs hi4 hL hR hl (h22 i f (xs (i + 1)) (xs (i + 2)) (xs (i + 3)) (by omega) hI) kk
      by_cases w23 : w = 23
      · rw [w23]
        refine lv_tableIn (off := 817) (tgt := 849) hx hb dL_law_32 (by decide) (by decide) (by decide +kernel) (by decide) ?_
        exact law_c23 hl0 C0 hn0 hcs hi4 hL hR hl (h23 i f (xs (i + 1)) (xs (i + 2)) (xs (i + 3)) (by omega) hI) kk
      by_cases w24 : w = 24
      · rw [w24]
        refine lv_tableIn (off := 840) (tgt := 872) hx hb dL_law_32 (by decide) (by decide) (by decide +kernel) (by decide) ?_
        exact law_c24 hl0 C0 hn0 hcs hi4 hL hR hl (h24 i f (xs (i + 1)) (xs (i + 2)) (xs (i + 3)) (by omega) hI) kk
      by_cases w25 : w = 25
      · rw [w25]
        refine lv_tableIn (off := 873) (tgt := 905) hx hb dL_law_32 (by decide) (by decide) (by decide +kernel) (by decide) ?_
        exact law_c25 hl0 C0 hn0 hcs hi4 hL hR hl (h25 i f (xs (i + 1)) (xs (i + 2)) (xs (i + 3)) (by omega) hI) kk
      by_cases w26 : w = 26
      · rw [w26]
        refine lv_tableIn (off := 886) (tgt := 918) hx hb dL_law_32 (by decide) (by decide) (by decide +kernel) (by decide) ?_
        exact law_c26 hl0 C0 hn0 hcs hi4 hL hR hl (h26 i f (xs (i + 1)) (xs (i + 2)) (xs (i + 3)) (by omega) hI) kk
      by_cases w27 : w = 27
      · rw [w27]
        refine lv_tableIn (off := 909) (tgt := 941) hx hb dL_law_32 (by decide) (by decide) (by decide +kernel) (by decide) ?_
        exact law_c27 hl0 C0 hn0 hcs hi4 hL hR hl (h27 i f (xs (i + 1)) (xs (i + 2)) (xs (i + 3)) (by omega) hI) kk
      by_cases w28 : w = 28
      · rw [w28]
        refine lv_tableIn (off := 952) (tgt := 984) hx hb dL_law_32 (by decide) (by decide) (by decide +kernel) (by decide) ?_
        exact law_c28 hl0 C0 hn0 hcs hi4 hL hR hl (h28 i f (xs (i + 1)) (xs (i + 2)) (xs (i + 3)) (by omega) hI) kk
      have t0 := lv_neT (a := 0) w0 (by decide)
      have t1 := lv_neT (a := 1) w1 (by decide)
      have t2 := lv_neT (a := 2) w2 (by decide)
      have t3 := lv_neT (a := 3) w3 (by decide)
      have t4 := lv_neT (a := 4) w4 (by decide)
      have t5 := lv_neT (a := 5) w5 (by decide)
      have t6 := lv_neT (a := 6) w6 (by decide)
      have t7 := lv_neT (a := 7) w7 (by decide)
      have t8 := lv_neT (a := 8) w8 (by decide)
      have t9 := lv_neT (a := 9) w9 (by decide)
      have t10 := lv_neT (a := 10) w10 (by decide)
      have t11 := lv_neT (a := 11) w11 (by decide)
      have t12 := lv_neT (a := 12) w12 (by decide)
      have t13 := lv_neT (a := 13) w13 (by decide)
      have t14 := lv_neT (a := 14) w14 (by decide)
      have t15 := lv_neT (a := 15) w15 (by decide)
      have t16 := lv_neT (a := 16) w16 (by decide)
      have t17 := lv_neT (a := 17) w17 (by decide)
      have t18 := lv_neT (a := 18) w18 (by decide)
      have t19 := lv_neT (a := 19) w19 (by decide)
      have t20 := lv_neT (a := 20) w20 (by decide)
      have t21 := lv_neT (a := 21) w21 (by decide)
      have t22 := lv_neT (a := 22) w22 (by decide)
      have t23 := lv_neT (a := 23) w23 (by decide)
      have t24 := lv_neT (a := 24) w24 (by decide)
      have t25 := lv_neT (a := 25) w25 (by decide)
      have t26 := lv_neT (a := 26) w26 (by decide)
      have t27 := lv_neT (a := 27) w27 (by decide)
      have t28 := lv_neT (a := 28) w28 (by decide)
      refine lv_tableOut (tgt := 1007) hx hb dL_law_32 (by omega) (by decide) ?_
      exact kk f H locs (hmono i f hI) hR
