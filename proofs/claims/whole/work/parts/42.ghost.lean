def tmS (i : Nat) : Term := Term.string RX3 (mm_sx.getD i (0, "")).1
def nar_L : List Cond := flatC (Jvm.Cond.and given_1 narrow_1)
theorem nk_ex : ∀ i, i < 11 → Cond.exactly (tmS i) "java/lang/String" ∈ nar_L := by decide +kernel
theorem nk_co : ∀ i, i < 11 → Cond.eq (.field (tmS i) "java/lang/String" "coder" "B") (.int 0) ∈ nar_L := by decide +kernel
theorem nk_ar : ∀ i, i < 11 → Cond.arrayOf (.field (tmS i) "java/lang/String" "value" "[B") .byte ∈ nar_L := by decide +kernel
theorem nk_le : ∀ i, i < 11 → Cond.eq (.length (.field (tmS i) "java/lang/String" "value" "[B")) (.int (Int32.ofNat (mm_sl.getD i 0))) ∈ nar_L := by decide +kernel
theorem nk_el : ∀ i, i < 11 → ∀ j, j < mm_sl.getD i 0 → Cond.eq (.elem (.field (tmS i) "java/lang/String" "value" "[B") (.int (Int32.ofNat j))) (.int ((mm_sb.getD i []).getD j 0)) ∈ nar_L := by decide +kernel
theorem nk_ne : ∀ i, i < 11 → ∀ j, j < 11 → i ≠ j → Cond.not (Cond.eq (tmS i) (tmS j)) ∈ nar_L ∨ Cond.not (Cond.eq (tmS j) (tmS i)) ∈ nar_L := by decide +kernel
theorem nk_cs : Cond.eq (.static "java/lang/String" "COMPACT_STRINGS" "Z") (.int 1) ∈ nar_L := by decide +kernel
theorem nk_fm : Cond.isRef (.static "jdk/internal/util/Preconditions" "SIOOBE_FORMATTER" "Ljava/util/function/BiFunction;") ∈ nar_L := by decide +kernel
theorem nk_sr : ∀ i, i < 11 → Cond.stringRef RX3 (mm_sx.getD i (0, "")).1 (mm_sx.getD i (0, "")).2 ∈ lw_tbl := by decide +kernel
theorem nk_ao : Cond.arrayOver (.object "IceRoad$Cell") ∈ lw_tbl ∧ Cond.arrayOver (.object "IceRoad$Load") ∈ lw_tbl ∧ Cond.arrayOver (.object "IceRoad$Rule") ∈ lw_tbl := by decide +kernel
theorem nk_nw : Cond.methodLinkNest RX6 39 yX3_init "IceRoad" ∈ lw_tbl ∧ Cond.methodLinkNest RX6 59 yX0_init "IceRoad" ∈ lw_tbl ∧ Cond.methodLinkNest RX6 81 yX1_init "IceRoad" ∈ lw_tbl ∧ Cond.methodLinkNest RX6 82 yX2_init "IceRoad" ∈ lw_tbl ∧ Cond.methodLinkNest RX3 11 yX4_init "IceRoad" ∈ lw_tbl := by decide +kernel
theorem nk_ls : Cond.laysStatic "java/lang/String" "COMPACT_STRINGS" "Z" ∈ lw_tbl ∧ Cond.laysStatic "jdk/internal/util/Preconditions" "SIOOBE_FORMATTER" "Ljava/util/function/BiFunction;" ∈ lw_tbl ∧ Cond.initialized "java/lang/String" ∈ lw_tbl ∧ Cond.initialized "jdk/internal/util/Preconditions" ∈ lw_tbl := by decide +kernel
theorem nk_in : Cond.instantiable RX0 10 ∈ lw_tbl ∧ Cond.instantiable RX1 7 ∈ lw_tbl ∧ Cond.instantiable RX2 9 ∈ lw_tbl ∧ Cond.instantiable RX3 2 ∈ lw_tbl ∧ Cond.instantiable RX4 2 ∈ lw_tbl ∧ Cond.instantiable RX5 1 ∈ lw_tbl ∧ Cond.instantiable RX6 16 ∈ lw_tbl ∧ Cond.instantiable RX7 34 ∈ lw_tbl := by decide +kernel
theorem nk_ac : Cond.arrayClass .int ∈ lw_tbl ∧ Cond.arrayClass .boolean ∈ lw_tbl := by decide +kernel
set_option maxHeartbeats 4000000 in
theorem st_ghost {p : Program} {s : State} {m : MethodId} {meth : Method} {c : Code} {b L : Nat} {xs : Nat → Int32} (l : Launch) (C0 : lw_At p s m meth c b L xs) : ∃ G : mmG, G.1 = l ∧ mm_n0 G = s.heap.size ∧ va_K G.2.1 vwCl (mm_t G) s ∧ mm_S G s ∧ mm_X s := by
  obtain ⟨hx, hb, hr, hml, hown, hts, hX, hbl, hlocks, hgv⟩ := C0
  have hB : ∀ w ∈ BIG, w.before #[Value.ref b] s = true := fun w hw => hts w (List.mem_filter.mp hw).1
  have hs : ∀ w ∈ nar_L, w.before #[Value.ref b] s = true := flat_of_before _ hgv
  obtain ⟨d0, e0, k0⟩ := u_known (C := RX0) (T := TX0) (N := 10) (n := 10) hB iX0 (hts _ nk_in.1)
  obtain ⟨d1, e1, k1⟩ := u_known (C := RX1) (T := TX1) (N := 7) (n := 7) hB iX1 (hts _ nk_in.2.1)
  obtain ⟨d2, e2, k2⟩ := u_known (C := RX2) (T := TX2) (N := 9) (n := 9) hB iX2 (hts _ nk_in.2.2.1)
  obtain ⟨d3, e3, k3⟩ := u_known (C := RX3) (T := TX3) (N := 2) (n := 2) hB iX3 (hts _ nk_in.2.2.2.1)
  obtain ⟨d4, e4, k4⟩ := u_known (C := RX4) (T := TX4) (N := 2) (n := 2) hB iX4 (hts _ nk_in.2.2.2.2.1)
  obtain ⟨d5, e5, k5⟩ := u_known (C := RX5) (T := TX5) (N := 1) (n := 1) hB iX5 (hts _ nk_in.2.2.2.2.2.1)
  obtain ⟨d6, e6, k6⟩ := u_known (C := RX6) (T := TX6) (N := 16) (n := 16) hB iX6 (hts _ nk_in.2.2.2.2.2.2.1)
  obtain ⟨d7, e7, k7⟩ := u_known (C := RX7) (T := TX7) (N := 34) (n := 34) hB iX7 (hts _ nk_in.2.2.2.2.2.2.2)
  obtain ⟨cI, kI, pI, i1, i2, i3⟩ := Cond.arrayClass_spec (hts _ nk_ac.1)
  obtain ⟨cZ, kZ, pZ, z1, z2, z3⟩ := Cond.arrayClass_spec (hts _ nk_ac.2)
  obtain ⟨qC, cC, kC, a1, a2, a3, a4, a5⟩ := Cond.arrayOver_spec (hts _ nk_ao.1)
  obtain ⟨qL, cL, kL, b1, b2, b3, b4, b5⟩ := Cond.arrayOver_spec (hts _ nk_ao.2.1)
  obtain ⟨qR, cR, kR, c1, c2, c3, c4, c5⟩ := Cond.arrayOver_spec (hts _ nk_ao.2.2)
  have hA : ∀ a : Nat, a < s.heap.size → ¬ (fun q : Nat => s.heap.size ≤ q) a := fun a h => Nat.not_le.mpr h
  obtain ⟨adK, adV, hST, hAd⟩ := vk_Sof (args := #[Value.ref b]) (s := s) (N := 11) (tm := tmS) (len := mm_sl) (byt := mm_sb) (A := fun q : Nat => s.heap.size ≤ q) (fun i hi => by have := mm_lens i hi; omega) (fun i hi => hs _ (nk_ex i hi)) (fun i hi => hs _ (nk_co i hi)) (fun i hi => hs _ (nk_ar i hi)) (fun i hi => hs _ (nk_le i hi)) (fun i hi j hj => hs _ (nk_el i hi j hj)) (fun i j hi hj hne => (nk_ne i hi j hj hne).imp (fun q => hs _ q) (fun q => hs _ q)) hA
  obtain ⟨vF, f1, f2⟩ := Cond.isRef_spec (hs _ nk_fm)
  refine ⟨(l, (fun k => match k with | 0 => d0 | 1 => d1 | 2 => d2 | 3 => d3 | 4 => d4 | 5 => d5 | 6 => d6 | _ => d7, fun k => match k with | 0 => e0 | 1 => e1 | 2 => e2 | 3 => e3 | 4 => e4 | 5 => e5 | 6 => e6 | _ => e7), fun k => match k with | 0 => cI | 1 => cZ | 2 => cC | 3 => cL | _ => cR, s.heap.size, adK, adV), rfl, rfl, ⟨?_, ?_⟩, ⟨hST, ?_, ?_, ?_⟩, ?_⟩
  · intro k q hq
    match k, hq with
    | 0, hq => cases hq; exact k0
    | 1, hq => cases hq; exact k1
    | 2, hq => cases hq; exact k2
    | 3, hq => cases hq; exact k3
    | 4, hq => cases hq; exact k4
    | 5, hq => cases hq; exact k5
    | 6, hq => cases hq; exact k6
    | 7, hq => cases hq; exact k7
    | k + 8, hq => simp [vwCl] at hq
  · intro k q hq
    match k, hq with
    | 0, hq => cases hq; exact ⟨fun n z => ⟨fun k h => (by cases h), kI, i2, pI, i3⟩, i1⟩
    | 1, hq => cases hq; exact ⟨fun n z => ⟨fun k h => (by cases h), kZ, z2, pZ, z3⟩, z1⟩
    | 2, hq => cases hq; exact ⟨fun n z => ⟨fun k h => (by cases h), kC, a3, qC, a4⟩, kC, qC, a3, a4, a1, a5⟩
    | 3, hq => cases hq; exact ⟨fun n z => ⟨fun k h => (by cases h), kL, b3, qL, b4⟩, kL, qL, b3, b4, b1, b5⟩
    | 4, hq => cases hq; exact ⟨fun n z => ⟨fun k h => (by cases h), kR, c3, qR, c4⟩, kR, qR, c3, c4, c1, c5⟩
    | k + 5, hq => simp [mm_t] at hq
  · exact fun i hi => vk_R.of (hts _ (nk_sr i hi)) (hAd i hi)
  · exact va_Zof (hts _ nk_ls.1) (hts _ nk_ls.2.2.1) (va_eqi (hs _ nk_cs)) hA
  · refine ⟨vF, ?_, va_Zof (hts _ nk_ls.2.1) (hts _ nk_ls.2.2.2) f1 hA⟩
    cases vF <;> simp [Value.isRef] at f2 ⊢
  · exact ⟨⟨va_AO.of (hts _ nk_ao.1), va_AO.of (hts _ nk_ao.2.1), va_AO.of (hts _ nk_ao.2.2)⟩, va_Nw.of rfl (hts _ nk_nw.1), va_Nw.of rfl (hts _ nk_nw.2.1), va_Nw.of rfl (hts _ nk_nw.2.2.1), va_Nw.of rfl (hts _ nk_nw.2.2.2.1), va_Nw.of rfl (hts _ nk_nw.2.2.2.2)⟩
