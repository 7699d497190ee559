/-! every call keeps the relation: the start of the law -/
def Inv2 (j : Nat) (f : F3) : Prop := RelE f f ∧ 0 ≤ (f 0 0 15).toInt ∧ (f 0 0 15).toInt ≤ 50 * (j : Int)
theorem ST_H {SC SR : F3 → Option (Int32 × F3)} (hs : SimH SC SR) (hC : ∀ {c : F3} {w : Int32} {c' : F3}, SC c = some (w, c') → eqR c' c) (hR : ∀ {r : F3} {w : Int32} {r' : F3}, SR r = some (w, r') → eqC r' r) (hH : ∀ {c : F3} {w : Int32} {c' : F3}, SC c = some (w, c') → eqH c' c) {j : Nat} {f : F3} (hI : Inv2 j f) : ST (Inv2 (j + 4)) SC SR f := by
  obtain ⟨w, c', r', h1, h2, h3⟩ := hs f f hI.1 hI.2.1
  have e1 := hC h1
  have hI1 : RelE f c' := RelE_congr (eqC_rf f) e1 hI.1
  obtain ⟨w2, c2, r2, g1, g2, g3⟩ := hs f c' hI1 hI.2.1
  have eh := hH g1
  rw [h1] at g1
  obtain ⟨rfl, rfl⟩ := mm_pr g1
  refine ⟨w2, c2, r2, h1, g2, RelE_congr (hR g2) (eqR_rf r2) g3, ?_⟩
  have e15 : r2 0 0 15 = f 0 0 15 := by
    rw [hR g2 0 (by decide)]
    exact eh
  rw [e15]
  have := hI.2
  omega
theorem SimH_of {SC SR : F3 → Option (Int32 × F3)} (h : SimI SC SR) : SimH SC SR := fun c r hE _ => h c r hE
theorem ST_run {j : Nat} {f : F3} (x : Int32) (hj : j ≤ 2048) (hI : Inv2 j f) : ST (Inv2 (j + 4)) (fun f => S_X6_run f x) (fun f => S_X7_run f x) f := by
  have b := hI.2
  obtain ⟨w, c', r', h1, h2, h3, h4, h5⟩ := sim_run x f f hI.1 hI.2.1 (by omega)
  have e1 := E_X6_run h1
  have hI1 : RelE f c' := RelE_congr (eqC_rf f) e1 hI.1
  obtain ⟨w2, c2, r2, g1, g2, g3, g4, g5⟩ := sim_run x f c' hI1 hI.2.1 (by omega)
  rw [h1] at g1
  obtain ⟨rfl, rfl⟩ := mm_pr g1
  refine ⟨w2, c2, r2, h1, g2, RelE_congr (E_X7_run g2) (eqR_rf r2) g3, ?_⟩
  have e15 : r2 0 0 15 = c2 0 0 15 := by rw [E_X7_run g2 0 (by decide)]
  rw [e15]
  omega
theorem k8 {P : Nat → Prop} {k : Nat} (hk : k < 8) (h0 : P 0) (h1 : P 1) (h2 : P 2) (h3 : P 3) (h4 : P 4) (h5 : P 5) (h6 : P 6) (h7 : P 7) : P k := by
  match k, hk with
  | 0, _ => exact h0
  | 1, _ => exact h1
  | 2, _ => exact h2
  | 3, _ => exact h3
  | 4, _ => exact h4
  | 5, _ => exact h5
  | 6, _ => exact h6
  | 7, _ => exact h7
  | k + 8, h => exact absurd h (by omega)
theorem rs00 (i k : Nat) : rs F00 i k = if k = 3 then (if i < 2 then 20 else 0) else if k = 4 then (if i < 2 then 1 else 0) else if 7 ≤ k then -1 else 0 := by
  unfold rs
  by_cases hk : k < 8
  · rw [if_pos hk]
    exact k8 (P := fun k => F00 (30 + k) 0 i = if k = 3 then (if i < 2 then 20 else 0) else if k = 4 then (if i < 2 then 1 else 0) else if 7 ≤ k then -1 else 0) hk rfl rfl rfl rfl rfl rfl rfl rfl
  · rw [if_neg hk, if_neg (show ¬ k = 3 by omega), if_neg (show ¬ k = 4 by omega), if_pos (show 7 ≤ k by omega)]
    by_cases h8 : k = 8
    · rw [if_pos h8]
      rfl
    · rw [if_neg h8]
      by_cases h9 : k = 9
      · rw [if_pos h9]
        rfl
      · rw [if_neg h9]
theorem Rel00 : Rel 2 0 0 0 F00 F00 := by
  have c1 : ∀ i k, F00 1 i k = if k = 3 then (if i < 2 then 20 else 1) else if k = 4 then 1 else if 7 ≤ k then -1 else 0 := fun i k => rfl
  refine ⟨by omega, ⟨rfl, rfl, rfl, rfl, rfl, rfl, rfl, rfl, rfl, rfl, Or.inl rfl⟩, ⟨fun i hi => ⟨?_, ?_⟩, fun i h1 h2 => ⟨fun k => ?_, fun k => ?_⟩⟩, ⟨⟨fun l hl => absurd hl (Nat.not_lt_zero _), fun l _ _ => ⟨rfl, fun k hk => ?_⟩⟩, rfl⟩, ⟨fun k hk => absurd hk (Nat.not_lt_zero _), fun j k _ hk => absurd hk (Nat.not_lt_zero _)⟩, fun p hp => absurd hp (Nat.not_lt_zero _), fun t ht => absurd ht (Nat.not_lt_zero _), fun t _ => ⟨rfl, Or.inl rfl⟩, fun t _ => ⟨fun q => absurd q (by decide), fun _ => rfl⟩, fun t _ => rfl⟩
  · funext k
    rw [c1, rs00]
    simp only [hi, if_true]
  · have e0 : F00 1 i 0 = 0 := rfl
    have e1 : F00 1 i 1 = 0 := rfl
    have e2 : F00 1 i 2 = 0 := rfl
    have e7 : F00 1 i 7 = -1 := rfl
    unfold okCe
    rw [e0, e1, e2, e7]
    exact ⟨by decide, by decide, by decide, by decide, fun q => absurd q (by decide)⟩
  · rw [c1, if_neg (show ¬ i < 2 by omega)]
    by_cases h3 : k = 3
    · rw [if_pos h3, if_pos (Or.inl h3)]
    · rw [if_neg h3]
      by_cases h4 : k = 4
      · rw [if_pos h4, if_pos (Or.inr h4)]
      · rw [if_neg h4, if_neg (show ¬ (k = 3 ∨ k = 4) by omega)]
  · rw [rs00, if_neg (show ¬ i < 2 by omega), if_neg (show ¬ i < 2 by omega)]
    by_cases h3 : k = 3
    · rw [if_pos h3, if_neg (by omega)]
    · rw [if_neg h3]
      by_cases h4 : k = 4
      · rw [if_pos h4, if_neg (by omega)]
      · rw [if_neg h4]
  · show (if 4 ≤ k then (-1 : Int32) else 0) = -1
    rw [if_pos hk]
theorem bz01 (c : Int32) : bz c = 0 ∨ bz c = 1 := by
  unfold bz
  by_cases h : c = 0
  · rw [if_pos h]
    exact Or.inl rfl
  · rw [if_neg h]
    exact Or.inr rfl
theorem whole_start {p : Program} {e : Env} {s : State} {m : MethodId} {below : List Frame} {meth : Method} {c : Code} (l : Launch) {b L : Nat} {xs : Nat → Int32} (hL : L ≤ 2048) (C0 : lw_At p s m meth c b L xs) : W p l e room_1 s m #[Value.ref b] below meth c s.heap [] 0 0 (lw_Z below #[Value.ref b] s) (entryFrame m ([Value.ref b] : List Value).toArray 4) :=
  start_open l hL C0 Inv2 (fun j f h => ⟨h.1, h.2.1, by have := h.2.2; omega⟩) ⟨⟨2, 0, 0, 0, Rel00⟩, by decide, by decide⟩
    (fun j f a b c hj hI => ST_H (SimH_of (sim_cell a b (bz c) (bz01 c))) E_X6_cell E_X7_cell H_X6_cell hI)
    (fun j f a b c hj hI => ST_H (SimH_of (sim_look a b)) E_X6_look E_X7_look H_X6_look hI)
    (fun j f a b c hj hI => ST_H (SimH_of (sim_thick a b)) E_X6_thick E_X7_thick H_X6_thick hI)
    (fun j f a b c hj hI => ST_H (SimH_of (sim_read a)) E_X6_read E_X7_read H_X6_read hI)
    (fun j f a b c hj hI => ST_H (SimH_of (sim_bears a b)) E_X6_bears E_X7_bears H_X6_bears hI)
    (fun j f a b c hj hI => ST_H (SimH_of (sim_weather a b)) E_X6_weather E_X7_weather H_X6_weather hI)
    (fun j f a b c hj hI => ST_H (SimH_of sim_cold) E_X6_cold E_X7_cold H_X6_cold hI)
    (fun j f a b c hj hI => ST_H (SimH_of (sim_heat a)) E_X6_heat E_X7_heat H_X6_heat hI)
    (fun j f a b c hj hI => ST_H (SimH_of (sim_sweep a)) E_X6_sweep E_X7_sweep H_X6_sweep hI)
    (fun j f a b c hj hI => ST_H (SimH_of (sim_flood a)) E_X6_flood E_X7_flood H_X6_flood hI)
    (fun j f a b c hj hI => ST_H (SimH_of (sim_bypass a)) E_X6_bypass E_X7_bypass H_X6_bypass hI)
    (fun j f a b c hj hI => ST_H (SimH_of (sim_snow a)) E_X6_snow E_X7_snow H_X6_snow hI)
    (fun j f a b c hj hI => ST_H (SimH_of (sim_load a b c)) E_X6_load E_X7_load H_X6_load hI)
    (fun j f a b c hj hI => ST_H (SimH_of (sim_of a b)) E_X6_of E_X7_of H_X6_of hI)
    (fun j f a b c hj hI => ST_H (sim_may a b) E_X6_may E_X7_may H_X6_may hI)
    (fun j f a b c hj hI => ST_H (sim_why a b) E_X6_why E_X7_why H_X6_why hI)
    (fun j f a b c hj hI => ST_H (SimH_of (sim_turn a)) E_X6_turn E_X7_turn H_X6_turn hI)
    (fun j f a b c hj hI => ST_run a (by omega) hI)
    (fun j f a b c hj hI => ST_H (SimH_of (sim_thaw a b)) E_X6_thaw E_X7_thaw H_X6_thaw hI)
    (fun j f a b c hj hI => ST_H (SimH_of (sim_feed a b)) E_X6_feed E_X7_feed H_X6_feed hI)
    (fun j f a b c hj hI => ST_H (SimH_of sim_wipe) E_X6_wipe E_X7_wipe H_X6_wipe hI)
    (fun j f a b c hj hI => ST_H (SimH_of (sim_rule a b)) E_X6_rule E_X7_rule H_X6_rule hI)
    (fun j f a b c hj hI => ST_H (sim_said a b c) E_X6_said E_X7_said H_X6_said hI)
    (fun j f a b c hj hI => ST_H (SimH_of (sim_count a)) E_X6_count E_X7_count H_X6_count hI)
    (fun j f a b c hj hI => ST_H (SimH_of (sim_tell a b)) E_X6_tell E_X7_tell H_X6_tell hI)
    (fun j f a b c hj hI => ST_H (SimH_of sim_tear) E_X6_tear E_X7_tear H_X6_tear hI)
    (fun j f a b c hj hI => ST_H (SimH_of (sim_row a)) E_X6_row E_X7_row H_X6_row hI)
    (fun j f a b c hj hI => ST_H (SimH_of (sim_copy a b c)) E_X6_copy E_X7_copy H_X6_copy hI)
    (fun j f a b c hj hI => ST_H (SimH_of (sim_status a)) E_X6_status E_X7_status H_X6_status hI)
