section MMS
variable {p : Program} {e : Env} {R : Room} {s : State} {m : MethodId} {args : Array Value} {below : List Frame} {meth : Method} {c : Code} {H : Heap} {locs : List Loc} {cells slots : Nat} {Q : State → Prop}
variable {cc : ByteArray} {pc nL : Nat} {ls : Array Slot} {rest : List Value} {G : mmG} {f f1 : F3} {index : Nat}
theorem mm_tret {l : Launch} {y : MethodName} {v : Int32} {ty : FieldType} (C0 : mmC y cc nL (some ty) p s m args meth c) (hn : narrow ty (.int v) = .int v) (hR : mm_R G mm_NT f (GG f) s H locs) (hdg : decode cc pc = .ok (.ireturn, 1)) :
    W p l e R s m args below meth c H locs 0 0 (MQ below (mm_Q G mm_NT (some (.int v)) f (GG f)) args s 0 0 (mm_A G)) (F0 m pc ls [.int v]) := by
  obtain ⟨hx, hb, hml, hr, hown, hts, hlocks⟩ := C0
  exact W.zret hx hb hr hn (fun t ht hW => ⟨rfl, hR.B ht hW, hR.2.2.1.F ht⟩) hR.2.2.1.2.2 hdg
/-- a call on a string -/
theorem mm_callK {l : Launch} {y y0 : MethodName} {ret ret0 : Option FieldType} {cc0 : ByteArray} {nL0 d d0 : Nat} {v : Option Value} {f1 : F3} (As : List Value) {st0 : List Value} (C0 : mmC y cc nL ret p s m args meth c) (hl : l = G.1) (hR : mm_R G mm_NT f (GG f) s H locs) {k : Nat} (hk : k < 11) (hM : mmM G y0 cc0 nL0 ret0 d0 (.ref (G.2.2.2.2.1 k) :: As) f v f1) (hw : mmW y0 cc0 nL0 ret0) (hlk : Cond.methodLink y.cls index y0 ∈ BIG)
    (hd : y0.cls ≠ "java/lang/invoke/MethodHandle" ∧ y0.cls ≠ "java/lang/invoke/VarHandle" ∧ (parseMethodDescriptor y0.desc).map (fun d => d.parameters.length) = some As.length) (hRm : d0 + 1 ≤ d ∧ 8 + (nL0 + 11) + 36 * d0 ≤ 36 * d)
    (hq : "java/lang/String" = y0.cls) (hls : ls.size = nL) (hst : st0 = As.reverse ++ .ref (G.2.2.2.2.1 k) :: rest) (hroom : (rest.map fun v => v.category).sum ≤ 8) (hdg : decode cc pc = .ok (.invokevirtual index, 3))
    (kk : ∀ (H1 : Heap) (locs1 : List Loc), mm_R G mm_NT f1 (GG f1) s H1 locs1 → W p l e (mm_rm d) s m args below meth c H1 locs1 0 0 Q (F0 m (pc + 3) ls (v.toList ++ rest))) : W p l e (mm_rm d) s m args below meth c H locs 0 0 Q (F0 m pc ls st0) := by
  obtain ⟨hx, hb, hml, hr, hown, hts, hlocks⟩ := C0
  subst hl
  have hgood : GoodIn BIG (wsV y.cls index y0.cls y0 (.code y0 cc0 nL0 ret0 :: BIG)) := mm_good (fun w hw' => by
    unfold wsV at hw'
    rcases List.mem_append.mp hw' with h | h
    · simp only [List.mem_cons, List.not_mem_nil, or_false] at h
      rcases h with rfl | rfl | rfl | rfl
      · exact hlk
      · exact hw.1
      · exact hw.2.1
      · exact hw.2.2.1
    · rcases List.mem_cons.mp h with rfl | h
      · exact hw.2.2.2
      · exact h)
  have hrecv := vk_recv hR.2.2.2.1 hk hR.2.2.1
  rw [hq] at hrecv
  exact mm_call hR (va_runV (As := As) (rest := rest) (C := y0.cls) (own := y.cls) ⟨hx, hb, hml, hown, hts⟩ hM (cwV As.length hts hgood rfl rfl rfl ⟨rfl, hd.1, hd.2.1, hd.2.2⟩ ⟨hRm.1, hRm.2⟩) ⟨mm_blind, hrecv, fun U hU hW => ⟨rfl, hR.B hU hW⟩⟩ rfl rfl hls hst (lv_room hroom) hdg ⟨Nat.le_refl _, Nat.le_refl _⟩) kk
theorem dS_cod_0 : decode cJ0_coder_7d493 0 = .ok (.getstatic 38, 3) := by decide +kernel
theorem dS_cod_3 : decode cJ0_coder_7d493 3 = .ok (.ifCond .eq 10, 3) := by decide +kernel
theorem dS_cod_6 : decode cJ0_coder_7d493 6 = .ok (.aload_n 0, 1) := by decide +kernel
theorem dS_cod_7 : decode cJ0_coder_7d493 7 = .ok (.getfield 15, 3) := by decide +kernel
theorem dS_cod_10 : decode cJ0_coder_7d493 10 = .ok (.goto 4, 3) := by decide +kernel
theorem dS_cod_14 : decode cJ0_coder_7d493 14 = .ok (.ireturn, 1) := by decide +kernel
theorem dS_isl_0 : decode cJ0_isLatin1_aae02 0 = .ok (.getstatic 38, 3) := by decide +kernel
theorem dS_isl_3 : decode cJ0_isLatin1_aae02 3 = .ok (.ifCond .eq 14, 3) := by decide +kernel
theorem dS_isl_6 : decode cJ0_isLatin1_aae02 6 = .ok (.aload_n 0, 1) := by decide +kernel
theorem dS_isl_7 : decode cJ0_isLatin1_aae02 7 = .ok (.getfield 15, 3) := by decide +kernel
theorem dS_isl_10 : decode cJ0_isLatin1_aae02 10 = .ok (.ifCond .ne 7, 3) := by decide +kernel
theorem dS_isl_13 : decode cJ0_isLatin1_aae02 13 = .ok (.iconst 1, 1) := by decide +kernel
theorem dS_isl_14 : decode cJ0_isLatin1_aae02 14 = .ok (.goto 4, 3) := by decide +kernel
theorem dS_isl_18 : decode cJ0_isLatin1_aae02 18 = .ok (.ireturn, 1) := by decide +kernel
theorem dS_len_0 : decode cJ0_length_8abf5 0 = .ok (.aload_n 0, 1) := by decide +kernel
theorem dS_len_1 : decode cJ0_length_8abf5 1 = .ok (.getfield 9, 3) := by decide +kernel
theorem dS_len_4 : decode cJ0_length_8abf5 4 = .ok (.arraylength, 1) := by decide +kernel
theorem dS_len_5 : decode cJ0_length_8abf5 5 = .ok (.aload_n 0, 1) := by decide +kernel
theorem dS_len_6 : decode cJ0_length_8abf5 6 = .ok (.invokevirtual 335, 3) := by decide +kernel
theorem dS_len_9 : decode cJ0_length_8abf5 9 = .ok (.ishr, 1) := by decide +kernel
theorem dS_len_10 : decode cJ0_length_8abf5 10 = .ok (.ireturn, 1) := by decide +kernel
theorem dS_chr_0 : decode cJ0_charAt_5068e 0 = .ok (.aload_n 0, 1) := by decide +kernel
theorem dS_chr_1 : decode cJ0_charAt_5068e 1 = .ok (.invokevirtual 492, 3) := by decide +kernel
theorem dS_chr_4 : decode cJ0_charAt_5068e 4 = .ok (.ifCond .eq 12, 3) := by decide +kernel
theorem dS_chr_7 : decode cJ0_charAt_5068e 7 = .ok (.aload_n 0, 1) := by decide +kernel
theorem dS_chr_8 : decode cJ0_charAt_5068e 8 = .ok (.getfield 9, 3) := by decide +kernel
theorem dS_chr_11 : decode cJ0_charAt_5068e 11 = .ok (.iload_n 1, 1) := by decide +kernel
theorem dS_chr_12 : decode cJ0_charAt_5068e 12 = .ok (.invokestatic 495, 3) := by decide +kernel
theorem dS_chr_15 : decode cJ0_charAt_5068e 15 = .ok (.ireturn, 1) := by decide +kernel
theorem dS_lat_0 : decode cJ1_charAt_3b067 0 = .ok (.iload_n 1, 1) := by decide +kernel
theorem dS_lat_1 : decode cJ1_charAt_3b067 1 = .ok (.aload_n 0, 1) := by decide +kernel
theorem dS_lat_2 : decode cJ1_charAt_3b067 2 = .ok (.arraylength, 1) := by decide +kernel
theorem dS_lat_3 : decode cJ1_charAt_3b067 3 = .ok (.invokestatic 9, 3) := by decide +kernel
theorem dS_lat_6 : decode cJ1_charAt_3b067 6 = .ok (.aload_n 0, 1) := by decide +kernel
theorem dS_lat_7 : decode cJ1_charAt_3b067 7 = .ok (.iload_n 1, 1) := by decide +kernel
theorem dS_lat_8 : decode cJ1_charAt_3b067 8 = .ok (.baload, 1) := by decide +kernel
theorem dS_lat_9 : decode cJ1_charAt_3b067 9 = .ok (.sipush 255, 3) := by decide +kernel
theorem dS_lat_12 : decode cJ1_charAt_3b067 12 = .ok (.iand, 1) := by decide +kernel
theorem dS_lat_13 : decode cJ1_charAt_3b067 13 = .ok (.i2c, 1) := by decide +kernel
theorem dS_lat_14 : decode cJ1_charAt_3b067 14 = .ok (.ireturn, 1) := by decide +kernel
theorem dS_ck_0 : decode cJ0_checkIndex_df160 0 = .ok (.iload_n 0, 1) := by decide +kernel
theorem dS_ck_1 : decode cJ0_checkIndex_df160 1 = .ok (.iload_n 1, 1) := by decide +kernel
theorem dS_ck_2 : decode cJ0_checkIndex_df160 2 = .ok (.getstatic 1053, 3) := by decide +kernel
theorem dS_ck_5 : decode cJ0_checkIndex_df160 5 = .ok (.invokestatic 1059, 3) := by decide +kernel
theorem dS_ck_8 : decode cJ0_checkIndex_df160 8 = .ok (.pop, 1) := by decide +kernel
theorem dS_ck_9 : decode cJ0_checkIndex_df160 9 = .ok (.return_, 1) := by decide +kernel
theorem dS_pre_0 : decode cJ3_checkIndex_8e157 0 = .ok (.iload_n 0, 1) := by decide +kernel
theorem dS_pre_1 : decode cJ3_checkIndex_8e157 1 = .ok (.ifCond .lt 8, 3) := by decide +kernel
theorem dS_pre_4 : decode cJ3_checkIndex_8e157 4 = .ok (.iload_n 0, 1) := by decide +kernel
theorem dS_pre_5 : decode cJ3_checkIndex_8e157 5 = .ok (.iload_n 1, 1) := by decide +kernel
theorem dS_pre_6 : decode cJ3_checkIndex_8e157 6 = .ok (.if_icmp .lt 10, 3) := by decide +kernel
theorem dS_pre_16 : decode cJ3_checkIndex_8e157 16 = .ok (.iload_n 0, 1) := by decide +kernel
theorem dS_pre_17 : decode cJ3_checkIndex_8e157 17 = .ok (.ireturn, 1) := by decide +kernel
theorem kS_1 : Cond.fieldLink RJ0 38 "java/lang/String" "COMPACT_STRINGS" "Z" ∈ BIG := mm_bigI 590 (by decide +kernel) rfl
theorem kS_2 : Cond.fieldLink RJ0 15 "java/lang/String" "coder" "B" ∈ BIG := mm_bigI 1063 (by decide +kernel) rfl
theorem kS_3 : Cond.fieldLink RJ0 9 "java/lang/String" "value" "[B" ∈ BIG := mm_bigI 1062 (by decide +kernel) rfl
theorem kS_4 : Cond.methodLink RJ0 335 yJ0_coder_7d493 ∈ BIG := mm_bigI 586 (by decide +kernel) rfl
theorem kS_5 : mmW yJ0_coder_7d493 cJ0_coder_7d493 1 (some .byte) := ⟨mm_bigI 587 (by decide +kernel) rfl, mm_bigI 588 (by decide +kernel) rfl, mm_bigI 75 (by decide +kernel) rfl, mm_bigI 589 (by decide +kernel) rfl⟩
theorem kS_6 : Cond.methodLink RJ0 492 yJ0_isLatin1_aae02 ∈ BIG := mm_bigI 596 (by decide +kernel) rfl
theorem kS_7 : mmW yJ0_isLatin1_aae02 cJ0_isLatin1_aae02 1 (some .boolean) := ⟨mm_bigI 597 (by decide +kernel) rfl, mm_bigI 598 (by decide +kernel) rfl, mm_bigI 75 (by decide +kernel) rfl, mm_bigI 599 (by decide +kernel) rfl⟩
theorem kS_8 : Cond.methodLink RJ0 495 yJ1_charAt_3b067 ∈ BIG := mm_bigI 600 (by decide +kernel) rfl
theorem kS_9 : mmWs yJ1_charAt_3b067 cJ1_charAt_3b067 2 (some .char) := ⟨mm_bigI 601 (by decide +kernel) rfl, mm_bigI 76 (by decide +kernel) rfl, mm_bigI 602 (by decide +kernel) rfl⟩
theorem kS_10 : Cond.methodLink RJ1 9 yJ0_checkIndex_df160 ∈ BIG := mm_bigI 603 (by decide +kernel) rfl
theorem kS_11 : mmWs yJ0_checkIndex_df160 cJ0_checkIndex_df160 2 none := ⟨mm_bigI 604 (by decide +kernel) rfl, mm_bigI 75 (by decide +kernel) rfl, mm_bigI 605 (by decide +kernel) rfl⟩
theorem kS_12 : Cond.fieldLink RJ0 1053 "jdk/internal/util/Preconditions" "SIOOBE_FORMATTER" "Ljava/util/function/BiFunction;" ∈ BIG := mm_bigI 606 (by decide +kernel) rfl
theorem kS_13 : Cond.methodLink RJ0 1059 yJ3_checkIndex_8e157 ∈ BIG := mm_bigI 608 (by decide +kernel) rfl
theorem kS_14 : mmWs yJ3_checkIndex_8e157 cJ3_checkIndex_8e157 3 (some .int) := ⟨mm_bigI 609 (by decide +kernel) rfl, mm_bigI 77 (by decide +kernel) rfl, mm_bigI 610 (by decide +kernel) rfl⟩
theorem kS_15 : mmW yJ0_length_8abf5 cJ0_length_8abf5 1 (some .int) := ⟨mm_bigI 583 (by decide +kernel) rfl, mm_bigI 584 (by decide +kernel) rfl, mm_bigI 75 (by decide +kernel) rfl, mm_bigI 585 (by decide +kernel) rfl⟩
theorem kS_16 : mmW yJ0_charAt_5068e cJ0_charAt_5068e 2 (some .char) := ⟨mm_bigI 593 (by decide +kernel) rfl, mm_bigI 594 (by decide +kernel) rfl, mm_bigI 75 (by decide +kernel) rfl, mm_bigI 595 (by decide +kernel) rfl⟩
theorem hdS_1 : yJ3_checkIndex_8e157.cls ≠ "java/lang/invoke/MethodHandle" ∧ yJ3_checkIndex_8e157.cls ≠ "java/lang/invoke/VarHandle" ∧ (parseMethodDescriptor yJ3_checkIndex_8e157.desc).map (fun d => d.parameters.length) = some 3 := by decide +kernel
theorem hdS_2 : yJ0_checkIndex_df160.cls ≠ "java/lang/invoke/MethodHandle" ∧ yJ0_checkIndex_df160.cls ≠ "java/lang/invoke/VarHandle" ∧ (parseMethodDescriptor yJ0_checkIndex_df160.desc).map (fun d => d.parameters.length) = some 2 := by decide +kernel
theorem hdS_3 : yJ1_charAt_3b067.cls ≠ "java/lang/invoke/MethodHandle" ∧ yJ1_charAt_3b067.cls ≠ "java/lang/invoke/VarHandle" ∧ (parseMethodDescriptor yJ1_charAt_3b067.desc).map (fun d => d.parameters.length) = some 2 := by decide +kernel
theorem hdS_4 : yJ0_charAt_5068e.cls ≠ "java/lang/invoke/MethodHandle" ∧ yJ0_charAt_5068e.cls ≠ "java/lang/invoke/VarHandle" ∧ (parseMethodDescriptor yJ0_charAt_5068e.desc).map (fun d => d.parameters.length) = some 1 := by decide +kernel
theorem hS_ok (y : MethodName) (n : Nat) (h : (y.cls ≠ "java/lang/invoke/MethodHandle" ∧ y.cls ≠ "java/lang/invoke/VarHandle" ∧ (parseMethodDescriptor y.desc).map (fun d => d.parameters.length) = some n)) : y.cls ≠ "java/lang/invoke/MethodHandle" ∧ y.cls ≠ "java/lang/invoke/VarHandle" ∧ (parseMethodDescriptor y.desc).map (fun d => d.parameters.length) = some n := h
theorem T_coder (G : mmG) (f : F3) {k : Nat} (hk : k < 11) : mmM G yJ0_coder_7d493 cJ0_coder_7d493 1 (some .byte) 0 [.ref (G.2.2.2.2.1 k)] f (some (.int 0)) f := by
  refine mm_start (by decide +kernel) (Nat.le_of_ble_eq_true rfl) ?_
  intro p e s m args below meth c ls C0 hR hl
  obtain ⟨hx, hb, hml, hr, hown, hts, hlocks⟩ := id C0
  have hl : lv_has ls 1 [(0, .ref (G.2.2.2.2.1 k))] := hl
  refine va_gets hx hb hR.2.2.2.2.2.1 hR.2.2.1 hown (hts _ kS_1) (fun _ h => h) dS_cod_0 ?_
  refine lv_if_eq (tgt := 13) hx hb dS_cod_3 (by decide) (fun q => absurd q (by decide)) (fun _ => ?_)
  refine lv_aload_n hx hb dS_cod_6 rfl (lv_at hl 0 rfl) ?_
  refine vk_getf hx hb (hR.2.2.2.1.1 k hk).2.1 hR.2.2.1 hown (hts _ kS_2) (fun _ h => h) dS_cod_7 ?_
  refine lv_goto (tgt := 14) hx hb dS_cod_10 (by decide) ?_
  exact mm_tret C0 rfl hR dS_cod_14
theorem T_isLatin1 (G : mmG) (f : F3) {k : Nat} (hk : k < 11) : mmM G yJ0_isLatin1_aae02 cJ0_isLatin1_aae02 1 (some .boolean) 0 [.ref (G.2.2.2.2.1 k)] f (some (.int 1)) f := by
  refine mm_start (by decide +kernel) (Nat.le_of_ble_eq_true rfl) ?_
  intro p e s m args below meth c ls C0 hR hl
  obtain ⟨hx, hb, hml, hr, hown, hts, hlocks⟩ := id C0
  have hl : lv_has ls 1 [(0, .ref (G.2.2.2.2.1 k))] := hl
  refine va_gets hx hb hR.2.2.2.2.2.1 hR.2.2.1 hown (hts _ kS_1) (fun _ h => h) dS_isl_0 ?_
  refine lv_if_eq (tgt := 17) hx hb dS_isl_3 (by decide) (fun q => absurd q (by decide)) (fun _ => ?_)
  refine lv_aload_n hx hb dS_isl_6 rfl (lv_at hl 0 rfl) ?_
  refine vk_getf hx hb (hR.2.2.2.1.1 k hk).2.1 hR.2.2.1 hown (hts _ kS_2) (fun _ h => h) dS_isl_7 ?_
  refine lv_if_ne (tgt := 17) hx hb dS_isl_10 (by decide) (fun q => absurd rfl q) (fun _ => ?_)
  refine lv_iconst (v := 1) hx hb dS_isl_13 (by decide) ?_
  refine lv_goto (tgt := 18) hx hb dS_isl_14 (by decide) ?_
  exact mm_tret C0 rfl hR dS_isl_18
theorem T_slen (G : mmG) (f : F3) {k : Nat} (hk : k < 11) : mmM G yJ0_length_8abf5 cJ0_length_8abf5 1 (some .int) 1 [.ref (G.2.2.2.2.1 k)] f (some (.int (slenI k))) f := by
  refine mm_start (by decide +kernel) (Nat.le_of_ble_eq_true rfl) ?_
  intro p e s m args below meth c ls C0 hR hl
  obtain ⟨hx, hb, hml, hr, hown, hts, hlocks⟩ := id C0
  have hl : lv_has ls 1 [(0, .ref (G.2.2.2.2.1 k))] := hl
  refine lv_aload_n hx hb dS_len_0 rfl (lv_at hl 0 rfl) ?_
  refine vk_getf hx hb (hR.2.2.2.1.1 k hk).2.2.1 hR.2.2.1 hown (hts _ kS_3) (fun _ h => h) dS_len_1 ?_
  refine va_tlen hx hb (hR.2.2.2.1.1 k hk).2.2.2 hR.2.2.1 (v := slenI k) rfl dS_len_4 ?_
  refine lv_aload_n hx hb dS_len_5 rfl (lv_at hl 0 rfl) ?_
  refine mm_callK (v := some (.int 0)) (f1 := f) (d0 := 0) (rest := [.int (slenI k)]) [] C0 rfl hR hk (T_coder G f hk) kS_5 kS_4 (by decide +kernel) ⟨by decide, by decide⟩ rfl hl.1 rfl (Nat.le_of_ble_eq_true rfl) dS_len_6 (fun H locs hR => ?_)
  refine W.eq (g2 := F0 m 9 ls [.int 0, .int (slenI k)]) rfl ?_
  refine lv_ishr hx hb dS_len_9 ?_
  rw [sb_shr0]
  exact mm_iret C0 hR dS_len_10
theorem T_pre (G : mmG) (f : F3) {j n : Int32} {v : Value} (hv : v = .null ∨ ∃ a : Nat, v = .ref a) (h0 : ¬ j < 0) (h1 : j < n) : mmM G yJ3_checkIndex_8e157 cJ3_checkIndex_8e157 3 (some .int) 0 [.int j, .int n, v] f (some (.int j)) f := by
  have hlen : (lg_sl [.int j, .int n, v]).length ≤ 3 := by
    rcases hv with rfl | ⟨a, rfl⟩ <;> exact Nat.le_of_ble_eq_true rfl
  have harg : lv_args 0 [.int j, .int n, v] = [(0, .int j), (1, .int n), (2, v)] := by
    rcases hv with rfl | ⟨a, rfl⟩ <;> rfl
  refine mm_start (by decide +kernel) hlen ?_
  intro p e s m args below meth c ls C0 hR hl
  obtain ⟨hx, hb, hml, hr, hown, hts, hlocks⟩ := id C0
  rw [harg] at hl
  refine lv_iload_n hx hb dS_pre_0 rfl (lv_at hl 0 rfl) ?_
  refine lv_if_lt (tgt := 9) hx hb dS_pre_1 (by decide) (fun q => absurd q h0) (fun _ => ?_)
  refine lv_iload_n hx hb dS_pre_4 rfl (lv_at hl 0 rfl) ?_
  refine lv_iload_n hx hb dS_pre_5 rfl (lv_at hl 1 rfl) ?_
  refine lv_icmp_lt (tgt := 16) hx hb dS_pre_6 (by decide) (fun _ => ?_) (fun q => absurd h1 q)
  refine lv_iload_n hx hb dS_pre_16 rfl (lv_at hl 0 rfl) ?_
  exact mm_iret C0 hR dS_pre_17
theorem T_sck (G : mmG) (f : F3) {j n : Int32} (h0 : ¬ j < 0) (h1 : j < n) : mmM G yJ0_checkIndex_df160 cJ0_checkIndex_df160 2 none 1 [.int j, .int n] f none f := by
  refine mm_start (by decide +kernel) (Nat.le_of_ble_eq_true rfl) ?_
  intro p e s m args below meth c ls C0 hR hl
  obtain ⟨hx, hb, hml, hr, hown, hts, hlocks⟩ := id C0
  have hl : lv_has ls 2 [(0, .int j), (1, .int n)] := hl
  obtain ⟨v, hv, hz⟩ := hR.2.2.2.2.2.2
  refine lv_iload_n hx hb dS_ck_0 rfl (lv_at hl 0 rfl) ?_
  refine lv_iload_n hx hb dS_ck_1 rfl (lv_at hl 1 rfl) ?_
  refine va_gets hx hb hz hR.2.2.1 hown (hts _ kS_12) (fun _ h => h) dS_ck_2 ?_
  refine mm_callS (v := some (.int j)) (f1 := f) (d0 := 0) (rest := []) [.int j, .int n, v] C0 rfl hR (T_pre G f hv h0 h1) kS_14 kS_13 hdS_1 ⟨by decide, by decide⟩ hl.1 rfl (Nat.le_of_ble_eq_true rfl) dS_ck_5 (fun H locs hR => ?_)
  refine W.eq (g2 := F0 m 8 ls [.int j]) rfl ?_
  refine lv_pop hx hb dS_ck_8 rfl ?_
  exact mm_vret C0 hR dS_ck_9
theorem mm_bytes : ∀ k, k < 11 → ∀ j, j < mm_sl.getD k 0 → ((((mm_sb.getD k []).getD j 0) &&& 255).toUInt32 % 65536).toInt32 = (mm_sb.getD k []).getD j 0 ∧ narrow .char (.int ((mm_sb.getD k []).getD j 0)) = .int ((mm_sb.getD k []).getD j 0) := by decide +kernel
theorem mm_lens : ∀ k, k < 11 → mm_sl.getD k 0 < 7 := by decide +kernel
theorem T_lat (G : mmG) (f : F3) {k : Nat} (hk : k < 11) {j : Int32} (hj : okI j (mm_sl.getD k 0) = true) : mmM G yJ1_charAt_3b067 cJ1_charAt_3b067 2 (some .char) 2 [.ref (G.2.2.2.2.2 k), .int j] f (some (.int (scharI k j))) f := by
  have hin := okI_in hj
  have hb1 := mm_bytes k hk j.toNatClampNeg (okI_lt hj)
  have hn7 := mm_lens k hk
  have h0 : ¬ j < 0 := fun q => hin (Or.inl q)
  have h1 : j < slenI k := by
    obtain ⟨q, hq, rfl⟩ := vp_in_of hin (by omega)
    exact nI_lt hq (by omega)
  refine mm_start (by decide +kernel) (Nat.le_of_ble_eq_true rfl) ?_
  intro p e s m args below meth c ls C0 hR hl
  obtain ⟨hx, hb, hml, hr, hown, hts, hlocks⟩ := id C0
  have hl : lv_has ls 2 [(0, .ref (G.2.2.2.2.2 k)), (1, .int j)] := hl
  refine lv_iload_n hx hb dS_lat_0 rfl (lv_at hl 1 rfl) ?_
  refine lv_aload_n hx hb dS_lat_1 rfl (lv_at hl 0 rfl) ?_
  refine va_tlen hx hb (hR.2.2.2.1.1 k hk).2.2.2 hR.2.2.1 (v := slenI k) rfl dS_lat_2 ?_
  refine mm_callS (v := none) (f1 := f) (d0 := 1) (rest := []) [.int j, .int (slenI k)] C0 rfl hR (T_sck G f h0 h1) kS_11 kS_10 hdS_2 ⟨by decide, by decide⟩ hl.1 rfl (Nat.le_of_ble_eq_true rfl) dS_lat_3 (fun H locs hR => ?_)
  refine W.eq (g2 := F0 m 6 ls []) rfl ?_
  refine lv_aload_n hx hb dS_lat_6 rfl (lv_at hl 0 rfl) ?_
  refine lv_iload_n hx hb dS_lat_7 rfl (lv_at hl 1 rfl) ?_
  refine va_tb hx hb (hR.2.2.2.1.1 k hk).2.2.2 hR.2.2.1 hin rfl dS_lat_8 ?_
  refine lv_sipush (v := 255) hx hb dS_lat_9 (by decide) ?_
  refine lv_iand hx hb dS_lat_12 ?_
  refine lv_i2c hx hb dS_lat_13 hb1.1 ?_
  exact mm_tret C0 hb1.2 hR dS_lat_14
theorem T_schar (G : mmG) (f : F3) {k : Nat} (hk : k < 11) {j : Int32} (hj : okI j (mm_sl.getD k 0) = true) : mmM G yJ0_charAt_5068e cJ0_charAt_5068e 2 (some .char) 3 [.ref (G.2.2.2.2.1 k), .int j] f (some (.int (scharI k j))) f := by
  refine mm_start (by decide +kernel) (Nat.le_of_ble_eq_true rfl) ?_
  intro p e s m args below meth c ls C0 hR hl
  obtain ⟨hx, hb, hml, hr, hown, hts, hlocks⟩ := id C0
  have hl : lv_has ls 2 [(0, .ref (G.2.2.2.2.1 k)), (1, .int j)] := hl
  refine lv_aload_n hx hb dS_chr_0 rfl (lv_at hl 0 rfl) ?_
  refine mm_callK (v := some (.int 1)) (f1 := f) (d0 := 0) (rest := []) [] C0 rfl hR hk (T_isLatin1 G f hk) kS_7 kS_6 (by decide +kernel) ⟨by decide, by decide⟩ rfl hl.1 rfl (Nat.le_of_ble_eq_true rfl) dS_chr_1 (fun H locs hR => ?_)
  refine W.eq (g2 := F0 m 4 ls [.int 1]) rfl ?_
  refine lv_if_eq (tgt := 16) hx hb dS_chr_4 (by decide) (fun q => absurd q (by decide)) (fun _ => ?_)
  refine lv_aload_n hx hb dS_chr_7 rfl (lv_at hl 0 rfl) ?_
  refine vk_getf hx hb (hR.2.2.2.1.1 k hk).2.2.1 hR.2.2.1 hown (hts _ kS_3) (fun _ h => h) dS_chr_8 ?_
  refine lv_iload_n hx hb dS_chr_11 rfl (lv_at hl 1 rfl) ?_
  refine mm_callS (v := some (.int (scharI k j))) (f1 := f) (d0 := 2) (rest := []) [.ref (G.2.2.2.2.2 k), .int j] C0 rfl hR (T_lat G f hk hj) kS_9 kS_8 hdS_3 ⟨by decide, by decide⟩ hl.1 rfl (Nat.le_of_ble_eq_true rfl) dS_chr_12 (fun H locs hR => ?_)
  refine W.eq (g2 := F0 m 15 ls [.int (scharI k j)]) rfl ?_
  exact mm_tret C0 (mm_bytes k hk j.toNatClampNeg (okI_lt hj)).2 hR dS_chr_15
theorem mm_slen {l : Launch} {y : MethodName} {ret : Option FieldType} {d k : Nat} (C0 : mmC y cc nL ret p s m args meth c) (hl : l = G.1) (hR : mm_R G mm_NT f (GG f) s H locs) (hk : k < 11) (hlk : Cond.methodLink y.cls index yJ0_length_8abf5 ∈ BIG) (hls : ls.size = nL) (hroom : (rest.map fun v => v.category).sum ≤ 8) (hd : 1 + 1 ≤ d ∧ 8 + (1 + 11) + 36 * 1 ≤ 36 * d) (hdg : decode cc pc = .ok (.invokevirtual index, 3))
    (kk : ∀ (H1 : Heap) (locs1 : List Loc), mm_R G mm_NT f (GG f) s H1 locs1 → W p l e (mm_rm d) s m args below meth c H1 locs1 0 0 Q (F0 m (pc + 3) ls (.int (slenI k) :: rest))) : W p l e (mm_rm d) s m args below meth c H locs 0 0 Q (F0 m pc ls (.ref (G.2.2.2.2.1 k) :: rest)) :=
  mm_callK (v := some (.int (slenI k))) (f1 := f) (d0 := 1) (rest := rest) [] C0 hl hR hk (T_slen G f hk) kS_15 hlk (by decide +kernel) hd rfl hls rfl hroom hdg kk
theorem mm_schar {l : Launch} {y : MethodName} {ret : Option FieldType} {d k : Nat} {j : Int32} (C0 : mmC y cc nL ret p s m args meth c) (hl : l = G.1) (hR : mm_R G mm_NT f (GG f) s H locs) (hk : k < 11) (hj : okI j (mm_sl.getD k 0) = true) (hlk : Cond.methodLink y.cls index yJ0_charAt_5068e ∈ BIG) (hls : ls.size = nL) (hroom : (rest.map fun v => v.category).sum ≤ 8) (hd : 3 + 1 ≤ d ∧ 8 + (2 + 11) + 36 * 3 ≤ 36 * d) (hdg : decode cc pc = .ok (.invokevirtual index, 3))
    (kk : ∀ (H1 : Heap) (locs1 : List Loc), mm_R G mm_NT f (GG f) s H1 locs1 → W p l e (mm_rm d) s m args below meth c H1 locs1 0 0 Q (F0 m (pc + 3) ls (.int (scharI k j) :: rest))) : W p l e (mm_rm d) s m args below meth c H locs 0 0 Q (F0 m pc ls (.int j :: .ref (G.2.2.2.2.1 k) :: rest)) :=
  mm_callK (v := some (.int (scharI k j))) (f1 := f) (d0 := 3) (rest := rest) [.int j] C0 hl hR hk (T_schar G f hk hj) kS_16 hlk hdS_4 hd rfl hls rfl hroom hdg kk
theorem kS_20 : Cond.native arraycopyName ∈ BIG := mm_big (by decide +kernel) rfl
theorem kS_21 : Cond.static arraycopyName ∈ BIG := mm_big (by decide +kernel) rfl
theorem kS_22 : Cond.initialized "java/lang/System" ∈ BIG := mm_big (by decide +kernel) rfl
theorem mm_copy {l : Launch} {y : MethodName} {ret : Option FieldType} {d : Nat} {sp dp n : Int32} (C0 : mmC y cc nL ret p s m args meth c) (hR : mm_R G mm_NT f (GG f) s H locs) (hls : ls.size = nL) (hfr : 1 ≤ d) (hlo : (rest.map fun v => v.category).sum + (nativeFrameWords "java/lang/System" "arraycopy" 5 + 11) ≤ 36 * d) (hz : okC sp dp n = true) (hlk : Cond.methodLink y.cls index arraycopyName ∈ BIG) (hdg : decode cc pc = .ok (.invokestatic index, 3))
    (kk : ∀ (H1 : Heap) (locs1 : List Loc), mm_R G mm_NT (cpy11 f sp dp n) (GG (cpy11 f sp dp n)) s H1 locs1 → W p l e (mm_rm d) s m args below meth c H1 locs1 0 0 Q (F0 m (pc + 3) ls rest)) : W p l e (mm_rm d) s m args below meth c H locs 0 0 Q (F0 m pc ls (.int n :: .int dp :: .ref (ra G 11 0) :: .int sp :: .ref (ra G 11 0) :: rest)) := by
  obtain ⟨hx, hb, hml, hr, hown, hts, hlocks⟩ := C0
  obtain ⟨hP, hK, hS, hT⟩ := hR
  have hv := mm_vld 11 (by decide) 0 (by decide)
  simp only [okC, Bool.and_eq_true, decide_eq_true_eq] at hz
  obtain ⟨⟨⟨⟨z1, z2⟩, z3⟩, z4⟩, z5⟩ := hz
  have nn : ∀ z : Int32, 0 ≤ z.toInt → ¬ z < 0 ∧ (z.toNatClampNeg : Int) = z.toInt := by
    intro z hz
    refine ⟨fun q => ?_, ?_⟩
    · have := Int32.lt_iff_toInt_lt.mp q
      simp at this
      omega
    · show ((z.toInt.toNat : Nat) : Int) = z.toInt
      omega
  obtain ⟨a1, b1⟩ := nn sp z1
  obtain ⟨a2, b2⟩ := nn dp z2
  obtain ⟨a3, b3⟩ := nn n z3
  have hat : (mm_wl G mm_NT f (GG f))[AD 11 0]? = some (ra G 11 0, .inl (G.2.2.1 0, 48, .inl (f 11 0))) := by rw [mm_wl_at hv.1 hv.2]; rfl
  refine va_copyi (ty := .int) hx hb (by rw [hml, hls]) hown (hts _ hlk) (hts _ kS_20) (hts _ kS_21) (hts _ kS_22) hK hP (mm_wl_D G mm_NT f (GG f)) hS (AD 11 0) (AD 11 0) 0 0 hat hat rfl rfl rfl a1 a2 a3 (by omega) (by omega) (fun _ _ => rfl) hfr hlo hdg (fun H1 locs1 hP1 hD1 hS1 => kk H1 locs1 ⟨?_, hK, hS1, hT⟩)
  have hoth : ∀ r' i', ¬ (r' = 11 ∧ i' = 0) → cpy11 f sp dp n r' i' = f r' i' := fun r' i' h => by
    funext k
    simp [cpy11, h]
  have hGG : GG (cpy11 f sp dp n) = GG f := by
    funext r' i' k'
    unfold GG
    split <;> try rfl
  rw [mm_wl_set (f' := cpy11 f sp dp n) (g' := GG (cpy11 f sp dp n)) (Nat.le_refl _) hv.2 (fun r' i' h => ⟨hoth r' i' h, by rw [hGG]⟩) ?_] at hP1
  · exact hP1
  · have : cpy11 f sp dp n 11 0 = va_cpy (f 11 0) (f 11 0) sp.toNatClampNeg dp.toNatClampNeg n.toNatClampNeg := by
      funext k
      simp [cpy11]
    rw [this]
    rfl
end MMS
