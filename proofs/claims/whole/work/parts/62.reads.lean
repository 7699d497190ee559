/-! rule: the tests and what joins them -/
def tinc (k70 : F3 → Int32 → Option F3) (f : F3) (x1 x2 : Int32) : Option F3 := Option.bind (S_X7_test f ((x1 + 6) + (3 * x2))) fun f37 => if okI (x1 + 4) 150 then (mm_let (up f37 23 0 (x1 + 4).toNatClampNeg ((f37 23 0 (x1 + 4).toNatClampNeg) + 1)) fun f39 => k70 f39 x1) else none
theorem r203_eq (k70 : F3 → Int32 → Option F3) (f : F3) (x1 x2 : Int32) : S_X7_reads_203 k70 f x1 x2 = Option.bind (S_X7_eats f 32) fun f36 => tinc k70 f36 x1 x2 := rfl
def jntR (k70 : F3 → Int32 → Option F3) (f19 : F3) (x1 N : Int32) : Option F3 := if (f19 20 0 29) = 0 then (if N = 1 then (mm_b2 (S_X7_here f19) fun r26 f25 => if r26 = 111 then (S_X7_reads_169 k70 f25 x1 N) else (S_X7_reads_193 k70 f25 x1 N)) else (if okI (x1 + 5) 150 then (if (f19 23 0 (x1 + 5).toNatClampNeg) = 1 then (S_X7_reads_169 k70 f19 x1 N) else (S_X7_reads_193 k70 f19 x1 N)) else none)) else (S_X7_reads_193 k70 f19 x1 N)
theorem r70_eq (n : Nat) (f : F3) (x1 : Int32) : S_X7_reads_70 (n + 1) f x1 = if (f 20 0 29) = 0 then (if (f 20 0 27) ≤ (f 20 0 28) then (some f) else (if okI (x1 + 4) 150 then (if (f 23 0 (x1 + 4).toNatClampNeg) = 3 then (mm_let (up f 20 0 29 1) fun f30 => some f30) else (Option.bind (S_X7_eats f 32) fun f19 => if (f 23 0 (x1 + 4).toNatClampNeg) = 0 then (Option.bind (S_X7_eats f19 105) fun f28 => Option.bind (S_X7_eats f28 102) fun f29 => S_X7_reads_203 (fun f9 x1_ => S_X7_reads_70 n f9 x1_) f29 x1 (f 23 0 (x1 + 4).toNatClampNeg)) else jntR (fun f9 x1_ => S_X7_reads_70 n f9 x1_) f19 x1 (f 23 0 (x1 + 4).toNatClampNeg))) else none)) else (some f) := by
  rw [S_X7_reads_70]
  rfl
section PD
variable {T : Nat → Int32} {nt p : Nat} {c r : F3} {b : Bool}
theorem HR_p28 {r' : F3} (h : HR T nt r p b) : r 20 0 28 = nI p := h.2.1
theorem ad6 (nr m : Nat) : nI (15 * nr) + 6 + 3 * nI m = nI (15 * nr + 6 + 3 * m) := by
  rw [show (6 : Int32) = nI 6 from rfl, show (3 : Int32) = nI 3 from rfl, pk_mul, nI_add, nI_add]
theorem R_70_bad (h : HR T nt r p true) (n : Nat) (x : Int32) : S_X7_reads_70 (n + 1) r x = some r := by
  rw [r70_eq, h.2.2.1, bo_t, if_neg (show ¬ (1 : Int32) = 0 by decide)]
theorem R_tinc_bad (hT : HT T nt) (h : HR T nt r p true) (hp : p ≤ nt) {nr m : Nat} (hnr : nr < 10) (hm : m < 3) : ∃ r', (∀ k70, tinc k70 r (nI (15 * nr)) (nI m) = k70 r' (nI (15 * nr))) ∧ FR (15 * nr + 4) r' r ∧ HR T nt r' p true := by
  obtain ⟨r1, a1, a2, a3⟩ := R_test_bad hT h hp (a := 15 * nr + 6 + 3 * m) (by omega)
  obtain ⟨o4, k4⟩ := nIa (show 15 * nr + 4 < 150 by omega) (show 150 < 2 ^ 31 by decide)
  refine ⟨up r1 23 0 (15 * nr + 4) (r1 23 0 (15 * nr + 4) + 1), fun k70 => ?_, (FR_up r1 _ (Nat.le_refl _)).tr (a2.lo (by omega)), HR_23 a3 _ _⟩
  unfold tinc
  rw [ad6, a1, mob, nI_p4, if_pos o4, k4, mlt]
theorem R_203_bad (hT : HT T nt) (h : HR T nt r p true) (hp : p ≤ nt) {nr m : Nat} (hnr : nr < 10) (hm : m < 3) : ∃ r', (∀ k70, S_X7_reads_203 k70 r (nI (15 * nr)) (nI m) = k70 r' (nI (15 * nr))) ∧ FR (15 * nr + 4) r' r ∧ HR T nt r' p true := by
  obtain ⟨r1, a1, a2, a3, a4⟩ := R_eats hT h hp (x := 32) (by decide)
  rw [et_b] at a3
  obtain ⟨r', b1, b2, b3⟩ := R_tinc_bad hT a3 hp hnr hm
  refine ⟨r', fun k70 => ?_, b2.tr (FR_20 a2), b3⟩
  rw [r203_eq, a1, mob]
  exact b1 k70
theorem e3_L (r : F3) (x y z : Int32) : S_X7_eats3 r x y z = eatsL [x, y, z] r := by
  unfold S_X7_eats3
  simp only [eatsL, Option.bind_some]
theorem R_193_bad (hT : HT T nt) (h : HR T nt r p true) (hp : p ≤ nt) {nr m : Nat} (hnr : nr < 10) (hm : m < 3) : ∃ r', (∀ k70, S_X7_reads_193 k70 r (nI (15 * nr)) (nI m) = k70 r' (nI (15 * nr))) ∧ FR (15 * nr + 4) r' r ∧ HR T nt r' p true := by
  obtain ⟨r1, a1, a2, a3, a4⟩ := R_eatsL hT [97, 110, 100] (by decide) r p true h hp
  rw [ets_bad] at a3
  obtain ⟨r', b1, b2, b3⟩ := R_203_bad hT a3 hp hnr hm
  refine ⟨r', fun k70 => ?_, b2.tr (FR_20 a2), b3⟩
  unfold S_X7_reads_193
  rw [e3_L, a1, mob]
  exact b1 k70
theorem sim_tinc (hT : HT T nt) (hc : HC T nt c p) (hr : HR T nt r p false) {nr m : Nat} (hnr : nr < 10) (hm : m < 3) (hP : PS nr m c r) (hq : r 23 0 (15 * nr + 4) = nI m) : ∃ (ok : Bool) (p' : Nat) (c' r' : F3), S_X3_takeTest c nr = some (bo ok, c') ∧ (∀ k70, tinc k70 r (nI (15 * nr)) (nI m) = k70 r' (nI (15 * nr))) ∧ FM nr c' c ∧ FR (15 * nr + 4) r' r ∧ HC T nt c' p' ∧ HR T nt r' p' (!ok) ∧ c' 3 nr 4 = c 3 nr 4 ∧ (ok = true → PS nr (m + 1) c' r' ∧ r' 23 0 (15 * nr + 4) = nI (m + 1)) := by
  obtain ⟨ok, p', c', r1, a1, a2, a3, a4, a5, a6, a7, a8⟩ := sim_test hT hc hr hnr hm hP
  obtain ⟨o4, k4⟩ := nIa (show 15 * nr + 4 < 150 by omega) (show 150 < 2 ^ 31 by decide)
  have e4 : r1 23 0 (15 * nr + 4) = nI m := by rw [a4.2.2 _ (by omega)]; exact hq
  refine ⟨ok, p', c', up r1 23 0 (15 * nr + 4) (nI (m + 1)), a1, fun k70 => ?_, a3, (FR_up r1 _ (Nat.le_refl _)).tr (a4.lo (by omega)), a5, HR_23 a6 _ _, a7, fun e => ⟨?_, by simp [up]⟩⟩
  · unfold tinc
    rw [ad6, a2, mob, nI_p4, if_pos o4, k4, mlt, e4, nI_1]
  · obtain ⟨⟨P0, P1⟩, ⟨P4, P4b⟩, P5, Pt⟩ := a8 e
    have ne : ∀ j, j ≠ 15 * nr + 4 → up r1 23 0 (15 * nr + 4) (nI (m + 1)) 23 0 j = r1 23 0 j := fun j hj => by simp [up, hj]
    refine ⟨⟨?_, ?_⟩, ⟨?_, P4b⟩, P5, fun t ht => ?_⟩
    · rw [ne _ (by omega)]
      exact P0
    · rw [ne _ (by omega)]
      exact P1
    · rw [ne _ (by omega)]
      exact P4
    · rw [ne _ (by omega), ne _ (by omega), ne _ (by omega)]
      exact Pt t ht
/-- 'or' -/
theorem jntA (hT : HT T nt) (hc : HC T nt c p) (hr : HR T nt r p false) {nr m : Nat} (hnr : nr < 10) (c4 : c 3 nr 4 = 1) (hP : PS nr m c (up r 23 0 (15 * nr + 5) 1)) : ∃ (ok : Bool) (p' : Nat) (c' r' : F3), S_X3_takeJoint_33 c nr = some (bo ok, c') ∧ (∀ k70 N, S_X7_reads_169 k70 r (nI (15 * nr)) N = S_X7_reads_203 k70 r' (nI (15 * nr)) N) ∧ F4 c' c ∧ FR (15 * nr + 4) r' r ∧ HC T nt c' p' ∧ HR T nt r' p' (!ok) ∧ PS nr m c' r' ∧ r' 23 0 (15 * nr + 4) = r 23 0 (15 * nr + 4) := by
  obtain ⟨ok, p', c', r', a1, a2, a3, a4, a5, a6⟩ := sim_word hT hc (HR_23 hr (15 * nr + 5) 1) (j := 4) (by decide)
  obtain ⟨o5, k5⟩ := nIa (show 15 * nr + 5 < 150 by omega) (show 150 < 2 ^ 31 by decide)
  refine ⟨ok, p', c', r', ?_, fun k70 N => ?_, a3, (FR_20 a4).tr (FR_up r _ (by omega)), a5, a6, PS_fr hP a3 a4, ?_⟩
  · unfold S_X3_takeJoint_33 S_X3_takeJoint_48
    rw [c4, if_neg (show ¬ (1 : Int32) = 0 by decide), a1, mb2, if_pos (okB_bo ok)]
  · unfold S_X7_reads_169
    rw [nI_p5, if_pos o5, k5, mlt]
    have a2 : (Option.bind (S_X7_eats (up r 23 0 (15 * nr + 5) 1) 111) fun f34 => Option.bind (S_X7_eats f34 114) fun f => some f) = some r' := a2
    have e : (Option.bind (S_X7_eats (up r 23 0 (15 * nr + 5) 1) 111) fun f34 => Option.bind (S_X7_eats f34 114) fun f35 => S_X7_reads_203 k70 f35 (nI (15 * nr)) N) = Option.bind (Option.bind (S_X7_eats (up r 23 0 (15 * nr + 5) 1) 111) fun f34 => Option.bind (S_X7_eats f34 114) fun f => some f) fun f35 => S_X7_reads_203 k70 f35 (nI (15 * nr)) N := by
      simp only [Option.bind_assoc, Option.bind_some]
    rw [e, a2, mob]
  · rw [a4.1 23 (by decide)]
    simp [up]
/-- 'and' -/
theorem jntB (hT : HT T nt) (hc : HC T nt c p) (hr : HR T nt r p false) {nr m : Nat} (c4 : c 3 nr 4 = 0) (hP : PS nr m c r) : ∃ (ok : Bool) (p' : Nat) (c' r' : F3), S_X3_takeJoint_33 c nr = some (bo ok, c') ∧ (∀ k70 N, S_X7_reads_193 k70 r (nI (15 * nr)) N = S_X7_reads_203 k70 r' (nI (15 * nr)) N) ∧ F4 c' c ∧ FR (15 * nr + 4) r' r ∧ HC T nt c' p' ∧ HR T nt r' p' (!ok) ∧ PS nr m c' r' ∧ r' 23 0 (15 * nr + 4) = r 23 0 (15 * nr + 4) := by
  obtain ⟨ok, p', c', r', a1, a2, a3, a4, a5, a6⟩ := sim_word hT hc hr (j := 5) (by decide)
  refine ⟨ok, p', c', r', ?_, fun k70 N => ?_, a3, FR_20 a4, a5, a6, PS_fr hP a3 a4, ?_⟩
  · unfold S_X3_takeJoint_33 S_X3_takeJoint_48
    rw [c4, if_pos rfl, a1, mb2, if_pos (okB_bo ok)]
  · unfold S_X7_reads_193
    have a2 : eatsL [97, 110, 100] r = some r' := a2
    rw [e3_L, a2, mob]
  · rw [a4.1 23 (by decide)]
theorem PS_4 {nr m : Nat} {x : Int32} (hP : PS nr m c r) (hx : x = 0 ∨ x = 1) : PS nr m (up c 3 nr 4 x) (up r 23 0 (15 * nr + 5) x) := by
  obtain ⟨⟨P0, P1⟩, ⟨P4, P4b⟩, P5, Pt⟩ := hP
  have ne : ∀ j, j ≠ 15 * nr + 5 → up r 23 0 (15 * nr + 5) x 23 0 j = r 23 0 j := fun j hj => by simp [up, hj]
  have cn : ∀ j, j ≠ 4 → up c 3 nr 4 x 3 nr j = c 3 nr j := fun j hj => by simp [up, hj]
  have c4 : up c 3 nr 4 x 3 nr 4 = x := by simp [up]
  have r5 : up r 23 0 (15 * nr + 5) x 23 0 (15 * nr + 5) = x := by simp [up]
  refine ⟨⟨?_, ?_⟩, ⟨?_, ?_⟩, ?_, fun t ht => ?_⟩
  · rw [ne _ (by omega), cn _ (by decide)]
    exact P0
  · rw [ne _ (by omega), cn _ (by decide)]
    exact P1
  · rw [c4, r5]
  · rw [c4]
    exact hx
  · rw [cn _ (by decide)]
    exact P5
  · rw [ne _ (by omega), ne _ (by omega), ne _ (by omega), up_reg (show (16 : Nat) ≠ 3 by decide), up_reg (show (17 : Nat) ≠ 3 by decide), up_reg (show (18 : Nat) ≠ 3 by decide)]
    exact Pt t ht
theorem up_same (f : F3) (g i k : Nat) {x : Int32} (h : f g i k = x) : up f g i k x = f := by
  funext g' i' k'
  unfold up
  by_cases q : g' = g ∧ i' = i ∧ k' = k
  · rw [if_pos q, q.1, q.2.1, q.2.2, h]
  · rw [if_neg q]
theorem sim_joint (hT : HT T nt) (hc : HC T nt c p) (hr : HR T nt r p false) {nr m : Nat} (hnr : nr < 10) (hm : m = 1 ∨ m = 2) (hP : PS nr m c r) (h4 : m = 1 → c 3 nr 4 = 0) : ∃ (ok : Bool) (p' : Nat) (c' r' : F3), S_X3_takeJoint c nr = some (bo ok, c') ∧ (∀ k70, jntR k70 r (nI (15 * nr)) (nI m) = S_X7_reads_203 k70 r' (nI (15 * nr)) (nI m)) ∧ FM nr c' c ∧ FR (15 * nr + 4) r' r ∧ HC T nt c' p' ∧ HR T nt r' p' (!ok) ∧ PS nr m c' r' ∧ r' 23 0 (15 * nr + 4) = r 23 0 (15 * nr + 4) := by
  obtain ⟨⟨P0, P1⟩, ⟨P4, P4b⟩, P5, Pt⟩ := id hP
  obtain ⟨o5, k5⟩ := nIa (show 15 * nr + 5 < 150 by omega) (show 150 < 2 ^ 31 by decide)
  unfold S_X3_takeJoint
  rcases hm with rfl | rfl
  · have hc4 : ∀ x, HC T nt (up c 3 nr 4 x) p := fun x => HC_up hc 3 nr 4 x (by decide)
    rw [P5, if_pos (show nI 1 = 1 from rfl), C_at hT hc, mb2]
    by_cases q : T p = 111
    · obtain ⟨ok, p', c', r', a1, a2, a3, a4, a5, a6, a7, a8⟩ := jntA hT (hc4 1) hr hnr (by simp [up]) (PS_4 hP (x := 1) (Or.inr rfl))
      refine ⟨ok, p', c', r', ?_, fun k70 => ?_, (FM_4 a3).tr (FM_up c 3 nr 4 1 (by decide)), a4, a5, a6, a7, a8⟩
      · rw [if_pos q]
        unfold S_X3_takeJoint_30
        rw [if_pos (by decide), mlt]
        exact a1
      · unfold jntR
        rw [hr.2.2.1, bo_f, if_pos (show (0 : Int32) = 0 from rfl), if_pos (show nI 1 = 1 from rfl), R_here hT hr hc.2.2.1, mb2, if_pos q]
        exact a2 k70 _
    · have e0 : up c 3 nr 4 0 = c := up_same c 3 nr 4 (h4 rfl)
      obtain ⟨ok, p', c', r', a1, a2, a3, a4, a5, a6, a7, a8⟩ := jntB hT hc hr (h4 rfl) hP
      refine ⟨ok, p', c', r', ?_, fun k70 => ?_, FM_4 a3, a4, a5, a6, a7, a8⟩
      · rw [if_neg q]
        unfold S_X3_takeJoint_30
        rw [if_pos (by decide), mlt, e0]
        exact a1
      · unfold jntR
        rw [hr.2.2.1, bo_f, if_pos (show (0 : Int32) = 0 from rfl), if_pos (show nI 1 = 1 from rfl), R_here hT hr hc.2.2.1, mb2, if_neg q]
        exact a2 k70 _
  · have n1 : ¬ nI 2 = 1 := by decide
    rw [P5, if_neg n1]
    rcases P4b with q | q
    · obtain ⟨ok, p', c', r', a1, a2, a3, a4, a5, a6, a7, a8⟩ := jntB hT hc hr q hP
      refine ⟨ok, p', c', r', a1, fun k70 => ?_, FM_4 a3, a4, a5, a6, a7, a8⟩
      unfold jntR
      rw [hr.2.2.1, bo_f, if_pos (show (0 : Int32) = 0 from rfl), if_neg n1, nI_p5, if_pos o5, k5, ← P4, q, if_neg (show ¬ (0 : Int32) = 1 by decide)]
      exact a2 k70 _
    · have e1 : up r 23 0 (15 * nr + 5) 1 = r := up_same r 23 0 _ (P4.symm.trans q)
      obtain ⟨ok, p', c', r', a1, a2, a3, a4, a5, a6, a7, a8⟩ := jntA hT hc hr hnr q (by rw [e1]; exact hP)
      refine ⟨ok, p', c', r', a1, fun k70 => ?_, FM_4 a3, a4, a5, a6, a7, a8⟩
      unfold jntR
      rw [hr.2.2.1, bo_f, if_pos (show (0 : Int32) = 0 from rfl), if_neg n1, nI_p5, if_pos o5, k5, ← P4, q, if_pos (show (1 : Int32) = 1 from rfl)]
      exact a2 k70 _
theorem C_75 (hT : HT T nt) (hc : HC T nt c p) : S_X3_takeTests_75 c = some (bo (decide (nt ≤ p)), c) := by
  unfold S_X3_takeTests_75
  rw [C_end hT hc, mb2, if_pos (okB_bo _)]
def RO (T : Nat → Int32) (nt nr : Nat) (c r : F3) (sc : Option (Int32 × F3)) (sr : Option F3) (lo : Nat) : Prop := ∃ (ok : Bool) (p' m' : Nat) (c' r' : F3), sc = some (bo ok, c') ∧ sr = some r' ∧ FM nr c' c ∧ FR lo r' r ∧ HC T nt c' p' ∧ HR T nt r' p' (!ok) ∧ (ok = true → m' ≤ 3 ∧ PS nr m' c' r' ∧ r' 23 0 (15 * nr + 4) = nI m')
theorem RO.fr {nr lo lo2 : Nat} {c0 r0 : F3} {sc : Option (Int32 × F3)} {sr : Option F3} (h : RO T nt nr c r sc sr lo) (hc : FM nr c c0) (hr : FR lo2 r r0) (hl : lo2 ≤ lo) : RO T nt nr c0 r0 sc sr lo2 := by
  obtain ⟨ok, p', m', c', r', a1, a2, a3, a4, a5⟩ := h
  exact ⟨ok, p', m', c', r', a1, a2, a3.tr hc, (a4.lo hl).tr hr, a5⟩
theorem RO_bad {nr lo : Nat} {c' r' : F3} {sc : Option (Int32 × F3)} {sr : Option F3} {p' : Nat} (h1 : sc = some (0, c')) (h2 : sr = some r') (hc : FM nr c' c) (hr : FR lo r' r) (h3 : HC T nt c' p') (h4 : HR T nt r' p' true) : RO T nt nr c r sc sr lo := ⟨false, p', 0, c', r', h1, h2, hc, hr, h3, h4, fun e => (by cases e)⟩
theorem sim_tests_loop (hT : HT T nt) {nr : Nat} (hnr : nr < 10) : ∀ (j m n1 n2 : Nat) (c r : F3) (p : Nat) (z : Int32), z = nI m → m + j = 3 → 1 ≤ m → j < n1 → j < n2 → PS nr m c r → r 23 0 (15 * nr + 4) = nI m → (m = 1 → c 3 nr 4 = 0) → HC T nt c p → HR T nt r p false → RO T nt nr c r (S_X3_takeTests_21 n1 c nr z) (S_X7_reads_70 n2 r (nI (15 * nr))) (15 * nr + 4)
  | j, m, n1 + 1, n2 + 1, c, r, p, z, hz, hj, hm1, hn1, hn2, hP, hq, h4, hc, hr => by
    obtain ⟨o4, k4⟩ := nIa (show 15 * nr + 4 < 150 by omega) (show 150 < 2 ^ 31 by decide)
    have hn := hT.1
    have hpn := hc.2.2.1
    rw [hz, S_X3_takeTests_21, r70_eq, hr.2.2.1, bo_f, if_pos (show (0 : Int32) = 0 from rfl), hr.1, hr.2.1, C_75 hT hc]
    by_cases qe : nt ≤ p
    · have RE : RO T nt nr c r (some (bo (decide (nt ≤ p)), c)) (some r) (15 * nr + 4) := by
        rw [decide_eq_true qe]
        exact ⟨true, p, m, c, r, rfl, rfl, FM_rf _ _, FR_rf _ _, hc, hr, fun _ => ⟨by omega, hP, hq⟩⟩
      rw [if_pos ((nI_leI (by omega) (by omega)).mpr qe)]
      by_cases q3 : (3 : Int32) ≤ nI m
      · rw [if_pos q3]
        exact RE
      · rw [if_neg q3, C_end hT hc, mb2, decide_eq_true qe, bo_t, if_neg (show ¬ (1 : Int32) = 0 by decide), C_75 hT hc]
        exact RE
    · rw [if_neg (nle_of (by omega) (by omega)), nI_p4, if_pos o4, k4, hq, decide_eq_false qe]
      by_cases q3 : m = 3
      · rw [q3, if_pos (show (3 : Int32) ≤ nI 3 by decide), if_pos (show nI 3 = 3 from rfl), mlt]
        exact RO_bad rfl rfl (FM_rf _ _) (FR_20 (F20_up r (Or.inr (Or.inl rfl)) _)) hc (HR_b hr)
      · have m0 : ¬ nI m = 0 := nI_ne0 (by omega) (by omega)
        have m3 : ¬ nI m = 3 := fun q => q3 ((nI_eq (b := 3) (by omega) (by decide)).mp q)
        rw [if_neg (show ¬ (3 : Int32) ≤ nI m from nle_of (n := 3) (by omega) (by decide)), if_neg m3, C_end hT hc, mb2, decide_eq_false qe, bo_f, if_pos (show (0 : Int32) = 0 from rfl)]
        obtain ⟨ok, p1, c1, r1, a1, a2, a3, a4, a5, a6⟩ := sim_sign hT hc hr (x := 32) (by decide)
        rw [a1, mb2, a2, mob, if_neg m0]
        have hn2' : ∃ n', n2 = n' + 1 := ⟨n2 - 1, by omega⟩
        obtain ⟨n', rfl⟩ := hn2'
        cases ok
        · obtain ⟨r2, b1, b2, b3⟩ := R_193_bad hT a6 a5.2.2.1 hnr (show m < 3 by omega)
          rw [bo_f, if_pos (show (0 : Int32) = 0 from rfl)]
          refine RO_bad rfl ?_ (FM_4 a3) (b2.tr (FR_20 a4)) a5 b3
          unfold jntR
          rw [a6.2.2.1, show bo (!false) = 1 from rfl, if_neg (show ¬ (1 : Int32) = 0 by decide), b1]
          exact R_70_bad b3 _ _
        · have hq1 : r1 23 0 (15 * nr + 4) = nI m := by rw [a4.1 23 (by decide)]; exact hq
          rw [bo_t, if_neg (show ¬ (1 : Int32) = 0 by decide)]
          obtain ⟨ok, p2, c2, r2, b1, b2, b3, b4, b5, b6, b7, b8⟩ := sim_joint hT a5 a6 hnr (show m = 1 ∨ m = 2 by omega) (PS_fr hP a3 a4) (fun e => by rw [a3 3 (by decide)]; exact h4 e)
          rw [b1, mb2, b2]
          have fc2 := b3.tr (FM_4 a3)
          have fr2 := b4.tr (FR_20 a4)
          cases ok
          · obtain ⟨r3, d1, d2, d3⟩ := R_203_bad hT b6 b5.2.2.1 hnr (show m < 3 by omega)
            rw [bo_f, if_pos (show (0 : Int32) = 0 from rfl), d1]
            exact RO_bad rfl (R_70_bad d3 _ _) fc2 (d2.tr fr2) b5 d3
          · rw [bo_t, if_neg (show ¬ (1 : Int32) = 0 by decide)]
            obtain ⟨ok, p3, c3, r3, d1, d2, d3, d4, d5, d6⟩ := sim_sign hT b5 b6 (x := 32) (by decide)
            rw [d1, mb2, r203_eq, d2, mob]
            have fc3 := (FM_4 d3).tr fc2
            have fr3 := (FR_20 d4).tr fr2
            cases ok
            · obtain ⟨r4, e1, e2, e3⟩ := R_tinc_bad hT d6 d5.2.2.1 hnr (show m < 3 by omega)
              rw [bo_f, if_pos (show (0 : Int32) = 0 from rfl), e1]
              exact RO_bad rfl (R_70_bad e3 _ _) fc3 (e2.tr fr3) d5 e3
            · rw [bo_t, if_neg (show ¬ (1 : Int32) = 0 by decide)]
              obtain ⟨ok, p4, c4, r4, e1, e2, e3, e4, e5, e6, e7, e8⟩ := sim_tinc hT d5 d6 hnr (show m < 3 by omega) (PS_fr b7 d3 d4) (by rw [d4.1 23 (by decide), b8]; exact hq1)
              rw [e1, mb2, e2]
              have fc4 := e3.tr fc3
              have fr4 := e4.tr fr3
              cases ok
              · rw [bo_f, if_pos (show (0 : Int32) = 0 from rfl)]
                exact RO_bad rfl (R_70_bad e6 _ _) fc4 fr4 e5 e6
              · obtain ⟨g1, g2⟩ := e8 rfl
                rw [bo_t, if_neg (show ¬ (1 : Int32) = 0 by decide), nI_1]
                exact (sim_tests_loop hT hnr (j - 1) (m + 1) n1 (n' + 1) c4 r4 p4 _ rfl (by omega) (by omega) (by omega) (by omega) g1 g2 (fun e => absurd e (by omega)) e5 e6).fr fc4 fr4 (Nat.le_refl _)
  | _, _, 0, _, _, _, _, _, _, _, _, h, _, _, _, _, _, _ => absurd h (Nat.not_lt_zero _)
  | _, _, _, 0, _, _, _, _, _, _, _, _, h, _, _, _, _, _ => absurd h (Nat.not_lt_zero _)
end PD
