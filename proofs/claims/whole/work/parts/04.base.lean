/-! the mini world: one list of cells, by regions; ints in f (region, index, slot), references in g -/
abbrev F3 : Type := Nat → Nat → Nat → Int32
abbrev G3 : Type := Nat → Nat → Nat → Nat × Nat
/-- ghosts: launch, class numbers and slots, array classes, the first new address, the strings' addresses -/
abbrev mmG : Type := Launch × va_G × (Nat → ClassId) × Nat × (Nat → Nat) × (Nat → Nat)
abbrev mm_n0 (G : mmG) : Nat := G.2.2.2.1
abbrev mm_t (G : mmG) : List (ClassId × FieldType) := [(G.2.2.1 0, .int), (G.2.2.1 1, .boolean), (G.2.2.1 2, .object "IceRoad$Cell"), (G.2.2.1 3, .object "IceRoad$Load"), (G.2.2.1 4, .object "IceRoad$Rule")]
def mm_A (G : mmG) : Nat → Prop := fun q => mm_n0 G ≤ q
def AD (r i : Nat) : Nat := match r with
  | 0 => 0 | 1 => if i = 10 then 13 else 14 + i | 2 => 24 + i | 3 => 48 + 4 * i | 4 => 7 | 5 => 8 | 6 => 5 | 7 => 1 | 8 => 2 | 9 => 3 | 10 => 4
  | 11 => 10 | 12 => 11 | 13 => 12 | 14 => 6 | 15 => 9 | 16 => 49 + 4 * i | 17 => 50 + 4 * i | 18 => 51 + 4 * i | 20 => 88 | 21 => 89 | 22 => 99 | 23 => 107 | 24 => 108 | 25 => 109 | 26 => 110 | 27 => 111 | 28 => 112
  | 38 => 98 | r => if 40 ≤ r then 60 + r else 60 + r
def mm_cnt (r : Nat) : Nat := match r with
  | 1 => 11 | 2 => 24 | 3 => 10 | 16 => 10 | 17 => 10 | 18 => 10 | 19 => 0 | 29 => 0 | 39 => 0 | r => if r < 47 then 1 else 0
def mm_len (r : Nat) : Nat := match r with
  | 7 => 10 | 8 => 24 | 9 => 24 | 10 => 10 | 11 => 48 | 12 => 7 | 13 => 5 | 14 => 48 | 15 => 80 | 16 => 3 | 17 => 3 | 18 => 3 | 21 => 9 | 22 => 48 | 23 => 150 | 24 => 24 | 25 => 50 | 26 => 80 | 27 => 48 | 28 => 48 | 38 => 20
  | r => if 40 ≤ r then 24 else 10
def mm_locs : List (Nat × Nat) := [(0,0),(7,0),(8,0),(9,0),(10,0),(6,0),(14,0),(4,0),(5,0),(15,0),(11,0),(12,0),(13,0),(1,10)] ++ ((List.range 10).map (fun i => (1, i))) ++ ((List.range 24).map (fun i => (2, i))) ++ ((List.range 10).flatMap (fun i => [(3, i), (16, i), (17, i), (18, i)])) ++ [(20,0),(21,0),(30,0),(31,0),(32,0),(33,0),(34,0),(35,0),(36,0),(37,0),(38,0),(22,0),(40,0),(41,0),(42,0),(43,0),(44,0),(45,0),(46,0),(23,0),(24,0),(25,0),(26,0),(27,0),(28,0)]
def mm_loc (j : Nat) : Nat × Nat := mm_locs.getD j (99, 0)
abbrev mm_NT : Nat := 113
theorem mm_vld : ∀ r, r < 47 → ∀ i, i < mm_cnt r → AD r i < mm_NT ∧ mm_loc (AD r i) = (r, i) := by decide +kernel
theorem mm_inv : ∀ j, j < mm_NT → AD (mm_loc j).1 (mm_loc j).2 = j := by decide +kernel
def mm_ro (G : mmG) (q : Nat × Nat) : Option Nat := if q.1 = 99 then none else some (mm_n0 G + AD q.1 q.2)
abbrev ra (G : mmG) (r i : Nat) : Nat := mm_n0 G + AD r i
def mm_ent (G : mmG) (r : Nat) (fv : Nat → Int32) (gv : Nat → Nat × Nat) : va_E := match r with
  | 0 => .inr (6, [va_rf (mm_ro G (gv 0)), va_rf (mm_ro G (gv 1)), va_rf (mm_ro G (gv 2)), va_rf (mm_ro G (gv 3)), va_rf (mm_ro G (gv 4)), va_rf (mm_ro G (gv 5)), va_rf (mm_ro G (gv 6)), va_rf (mm_ro G (gv 7)), va_rf (mm_ro G (gv 8)), va_rf (mm_ro G (gv 9)), va_rf (mm_ro G (gv 10)), .int (fv 11), .int (fv 12), .int (fv 13), .int (fv 14), .int (fv 15)])
  | 1 => .inr (0, [.int (fv 0), .int (fv 1), .int (fv 2), .int (fv 3), .int (fv 4), .int (fv 5), .int (fv 6), .int (fv 7), .int (fv 8), .int (fv 9)])
  | 2 => .inr (1, [.int (fv 0), .int (fv 1), .int (fv 2), .int (fv 3), .int (fv 4), .int (fv 5), .int (fv 6)])
  | 3 => .inr (2, [.int (fv 0), .int (fv 1), .int (fv 2), .int (fv 3), .int (fv 4), .int (fv 5), va_rf (mm_ro G (gv 6)), va_rf (mm_ro G (gv 7)), va_rf (mm_ro G (gv 8))])
  | 4 => .inr (3, [va_rf (mm_ro G (gv 0)), .int (fv 1)])
  | 5 => .inr (4, [va_rf (mm_ro G (gv 0)), .int (fv 1)])
  | 6 => .inr (5, [va_rf (mm_ro G (gv 0))])
  | 7 => .inl (G.2.2.1 2, 10, .inr (.inr (.inr (.inr (fun k => mm_ro G (gv k))))))
  | 8 => .inl (G.2.2.1 3, 24, .inr (.inr (.inr (.inr (fun k => mm_ro G (gv k))))))
  | 9 => .inl (G.2.2.1 3, 24, .inr (.inr (.inr (.inr (fun k => mm_ro G (gv k))))))
  | 10 => .inl (G.2.2.1 4, 10, .inr (.inr (.inr (.inr (fun k => mm_ro G (gv k))))))
  | 20 => .inr (7, [va_rf (mm_ro G (gv 0)), .int (fv 1), .int (fv 2), va_rf (mm_ro G (gv 3)), va_rf (mm_ro G (gv 4)), va_rf (mm_ro G (gv 5)), va_rf (mm_ro G (gv 6)), va_rf (mm_ro G (gv 7)), va_rf (mm_ro G (gv 8)), va_rf (mm_ro G (gv 9)), va_rf (mm_ro G (gv 10)), va_rf (mm_ro G (gv 11)), va_rf (mm_ro G (gv 12)), .int (fv 13), va_rf (mm_ro G (gv 14)), va_rf (mm_ro G (gv 15)), va_rf (mm_ro G (gv 16)), va_rf (mm_ro G (gv 17)), va_rf (mm_ro G (gv 18)), va_rf (mm_ro G (gv 19)), va_rf (mm_ro G (gv 20)), .int (fv 21), va_rf (mm_ro G (gv 22)), va_rf (mm_ro G (gv 23)), .int (fv 24), va_rf (mm_ro G (gv 25)), va_rf (mm_ro G (gv 26)), .int (fv 27), .int (fv 28), .int (fv 29), .int (fv 30), .int (fv 31), va_rf (mm_ro G (gv 32)), va_rf (mm_ro G (gv 33))])
  | 24 => .inl (G.2.2.1 1, 24, .inl fv)
  | r => .inl (G.2.2.1 0, mm_len r, .inl fv)
def GG (f : F3) : G3 := fun r i k => match r with
  | 0 => (match k with | 0 => (7,0) | 1 => (8,0) | 2 => (9,0) | 3 => (10,0) | 4 => (6,0) | 5 => (4,0) | 6 => (5,0) | 7 => (11,0) | 8 => (12,0) | 9 => (13,0) | _ => (1,10))
  | 3 => (match k with | 6 => (16,i) | 7 => (17,i) | _ => (18,i))
  | 4 => (5,0) | 5 => (15,0) | 6 => (14,0) | 7 => (1,k) | 8 => (2,k) | 9 => (2,(f 9 i k).toNatClampNeg) | 10 => (3,k)
  | 20 => (match k with | 0 => (21,0) | 3 => (30,0) | 4 => (31,0) | 5 => (32,0) | 6 => (33,0) | 7 => (34,0) | 8 => (35,0) | 9 => (36,0) | 10 => (37,0) | 11 => (38,0) | 12 => (22,0) | 14 => (40,0) | 15 => (41,0) | 16 => (42,0) | 17 => (43,0) | 18 => (44,0) | 19 => (45,0) | 20 => (46,0) | 22 => (23,0) | 23 => (24,0) | 25 => (25,0) | 26 => (26,0) | 32 => (27,0) | _ => (28,0))
  | _ => (99,0)
def mm_wl (G : mmG) (n : Nat) (f : F3) (g : G3) : va_W := (List.range n).map (fun j => (mm_n0 G + j, mm_ent G (mm_loc j).1 (f (mm_loc j).1 (mm_loc j).2) (g (mm_loc j).1 (mm_loc j).2)))
theorem mm_wl_at {G : mmG} {n : Nat} {f : F3} {g : G3} {r i : Nat} (h1 : AD r i < n) (h2 : mm_loc (AD r i) = (r, i)) : (mm_wl G n f g)[AD r i]? = some (ra G r i, mm_ent G r (f r i) (g r i)) := by
  unfold mm_wl
  rw [List.getElem?_map, List.getElem?_range h1]
  simp [h2]
theorem mm_wl_D (G : mmG) (n : Nat) (f : F3) (g : G3) : va_D (mm_A G) (mm_wl G n f g) := by
  have key : ∀ (k : Nat) (q : Nat × va_E), (mm_wl G n f g)[k]? = some q → q.1 = mm_n0 G + k := by
    intro k q h
    unfold mm_wl at h
    rw [List.getElem?_map] at h
    cases hr : (List.range n)[k]? with
    | none => rw [hr] at h; cases h
    | some j =>
      rw [hr] at h
      have hj : j = k := by
        have h1 := List.getElem?_eq_some_iff.mp hr
        obtain ⟨h2, h3⟩ := h1
        rw [List.getElem_range] at h3
        exact h3.symm
      subst hj
      cases h
      rfl
  refine ⟨fun i j p q hp hq e => ?_, fun k q h => ?_⟩
  · have e1 := key i p hp
    have e2 := key j q hq
    omega
  · have e1 := key k q h
    unfold mm_A
    omega
/-- a cell of the list takes other contents, the rest stays -/
theorem mm_wl_set {G : mmG} {n : Nat} {f f' : F3} {g g' : G3} {r i : Nat} {e : va_E} (hn : n ≤ mm_NT) (h2 : mm_loc (AD r i) = (r, i))
    (ho : ∀ r' i', ¬ (r' = r ∧ i' = i) → f' r' i' = f r' i' ∧ g' r' i' = g r' i') (he : e = mm_ent G r (f' r i) (g' r i)) :
    (mm_wl G n f g).set (AD r i) (ra G r i, e) = mm_wl G n f' g' := by
  subst he
  apply List.ext_getElem?
  intro k
  rw [List.getElem?_set]
  unfold mm_wl
  by_cases hk : k < n
  · by_cases hj : AD r i = k
    · subst hj
      simp [hk, h2]
    · have hne : ¬ ((mm_loc k).1 = r ∧ (mm_loc k).2 = i) := by
        intro hq
        have := mm_inv k (Nat.lt_of_lt_of_le hk hn)
        rw [hq.1, hq.2] at this
        exact hj this
      obtain ⟨o1, o2⟩ := ho _ _ hne
      simp [hk, hj, o1, o2]
  · by_cases hj : AD r i = k
    · subst hj
      simp [hk]
    · simp [hk, hj]
def up (f : F3) (r i k : Nat) (x : Int32) : F3 := fun r' i' k' => if r' = r ∧ i' = i ∧ k' = k then x else f r' i' k'
theorem up_self (f : F3) (r i k : Nat) (x : Int32) : up f r i k x r i = upd (f r i) k x := by
  funext j
  simp [up, upd]
theorem up_other (f : F3) (r i k : Nat) (x : Int32) {r' i' : Nat} (h : ¬ (r' = r ∧ i' = i)) : up f r i k x r' i' = f r' i' := by
  funext j
  unfold up
  rw [if_neg (fun q => h ⟨q.1, q.2.1⟩)]
theorem GG_up {f : F3} {r i k : Nat} {x : Int32} (h : r ≠ 9) : GG (up f r i k x) = GG f := by
  funext r' i' k'
  unfold GG
  split <;> try rfl
  have : up f r i k x 9 i' k' = f 9 i' k' := by
    unfold up
    rw [if_neg (fun q => h q.1.symm)]
  simp only [this]
def BIG : List Cond := lw_tbl.filter goodWord
theorem mm_big {w : Cond} (h : w ∈ lw_tbl) (hg : goodWord w = true) : w ∈ BIG := List.mem_filter.mpr ⟨h, hg⟩
theorem mm_goodB {c : Cond} {hd : List Cond} (h : ∀ w ∈ hd, w ∈ BIG) : GoodIn (c :: BIG) hd := fun w hw => ⟨List.mem_cons_of_mem _ (h w hw), good_of_word (List.mem_filter.mp (h w hw)).2⟩
theorem mm_goodBB {hd : List Cond} (h : ∀ w ∈ hd, w ∈ BIG) : GoodIn lw_tbl hd := fun w hw => ⟨(List.mem_filter.mp (h w hw)).1, good_of_word (List.mem_filter.mp (h w hw)).2⟩
def mm_sx : List (Nat × String) := [(89, "thick"), (91, "gap"), (93, "stop"), (56, " if "), (72, "or"), (74, "and"), (95, "weight"), (97, "rank"), (99, "cell"), (101, "heat"), (103, "snow")]
def mm_sb : List (List Int32) := [[116, 104, 105, 99, 107], [103, 97, 112], [115, 116, 111, 112], [32, 105, 102, 32], [111, 114], [97, 110, 100], [119, 101, 105, 103, 104, 116], [114, 97, 110, 107], [99, 101, 108, 108], [104, 101, 97, 116], [115, 110, 111, 119]]
def mm_sl : List Nat := [5, 3, 4, 4, 2, 3, 6, 4, 4, 4, 4]
/-- the strings: their cells, and that each ldc finds its own -/
def mm_S (G : mmG) (U : State) : Prop := vk_S 11 mm_sl mm_sb G.2.2.2.2.1 G.2.2.2.2.2 (mm_A G) U U.heap ∧ (∀ i : Nat, i < 11 → vk_R RX3 (mm_sx.getD i (0, "")).1 (mm_sx.getD i (0, "")).2 (G.2.2.2.2.1 i) U) ∧ va_Z "java/lang/String" "COMPACT_STRINGS" "Z" (.int 1) (mm_A G) U U.heap ∧ ∃ v : Value, (v = .null ∨ ∃ a : Nat, v = .ref a) ∧ va_Z "jdk/internal/util/Preconditions" "SIOOBE_FORMATTER" "Ljava/util/function/BiFunction;" v (mm_A G) U U.heap
/-- what holds of a state at a method's start and end -/
def mm_B (G : mmG) (n : Nat) (f : F3) (g : G3) (U : State) : Prop := va_P G.2.1 vwCl (mm_wl G n f g) U.heap ∧ va_K G.2.1 vwCl (mm_t G) U ∧ mm_S G U
/-- what holds within a method: s its start, H the heap now -/
def mm_R (G : mmG) (n : Nat) (f : F3) (g : G3) (s : State) (H : Heap) (locs : List Loc) : Prop := va_P G.2.1 vwCl (mm_wl G n f g) H ∧ va_K G.2.1 vwCl (mm_t G) s ∧ va_S (mm_A G) s.heap H locs ∧ mm_S G s
theorem mm_S.at {G : mmG} {s U : State} {H : Heap} {locs : List Loc} (h : mm_S G s) (hS : va_S (mm_A G) s.heap H locs) (hU : U.heap = H) (hW : s.WarmedH U.vm) : mm_S G U :=
  ⟨by rw [hU]; exact vk_S.kept (vk_S.moved hW.alike h.1) hS.2.1, fun i hi => vk_R.warm hW (h.2.1 i hi), by rw [hU]; exact va_Z.kept (va_Z.moved hW.alike h.2.2.1) hS.2.1, by
    obtain ⟨v, hv, hz⟩ := h.2.2.2
    exact ⟨v, hv, by rw [hU]; exact va_Z.kept (va_Z.moved hW.alike hz) hS.2.1⟩⟩
theorem mm_R.B {G : mmG} {n : Nat} {f : F3} {g : G3} {s U : State} {H : Heap} {locs : List Loc} (h : mm_R G n f g s H locs) (hU : U.heap = H) (hW : s.WarmedH U.vm) : mm_B G n f g U := by
  obtain ⟨h2, h3, h4, h5⟩ := h
  exact ⟨by rw [hU]; exact h2, va_K.moved hW.alike h3, h5.at h4 hU hW⟩
def mm_Pc (G : mmG) (n : Nat) (as : List Value) (f : F3) (g : G3) : Array Value → State → Prop := va_Pc as (mm_B G n f g)
def mm_Q (G : mmG) (n : Nat) (r : Option Value) (f : F3) (g : G3) : Array Value → State → Outcome → State → Prop := fun _ st o t => o = .returned r ∧ mm_B G n f g t ∧ va_F (mm_A G) st t
def mm_rm (d : Nat) : Room := { frames := d, cells := 0, slots := 0, locals := 36 * d }
/-- a method's contract, nothing made: arguments, the ints before, the answer, the ints behind -/
def mmM (G : mmG) (y : MethodName) (cc : ByteArray) (nL : Nat) (ret : Option FieldType) (d : Nat) (as : List Value) (f : F3) (r : Option Value) (f' : F3) : Prop :=
  Met G.1 y (.code y cc nL ret :: BIG) (mm_rm d) (mm_Pc G mm_NT as f (GG f)) (mm_Q G mm_NT r f' (GG f')) 0 0 (mm_A G)
theorem mm_blind {G : mmG} {n : Nat} {as : List Value} {f : F3} {g : G3} : FrameBlind (mm_Pc G n as f g) := by
  intro a U gg mk h
  obtain ⟨h0, h2, h3, h4⟩ := h
  exact ⟨h0, h2, va_K.moved (u := U) (U := U.calling gg mk a) (Vm.Alike.refl U.vm) h3, h4.1, fun i hi => vk_R.same (u := U) rfl (h4.2.1 i hi), h4.2.2⟩
theorem mm_bind {α β : Type} {o : Option α} {k : α → Option β} {z : β} (h : o.bind k = some z) : ∃ q, o = some q ∧ k q = some z := by
  cases o with
  | none => cases h
  | some q => exact ⟨q, rfl, h⟩
theorem mm_if {α : Type} {c : Prop} {hd : Decidable c} {A : Option α} {z : α} (h : (if c then A else none) = some z) : c ∧ A = some z := by
  by_cases hc : c
  · rw [if_pos hc] at h; exact ⟨hc, h⟩
  · rw [if_neg hc] at h; cases h
def okI (i : Int32) (n : Nat) : Bool := decide (0 ≤ i.toInt) && decide (i.toInt < n)
theorem okI_in {i : Int32} {n : Nat} (h : okI i n = true) : vp_in i n := by
  rw [vp_in_iff]
  simpa [okI] using h
theorem okI_lt {i : Int32} {n : Nat} (h : okI i n = true) : i.toNatClampNeg < n := by
  have h1 := okI_in h
  exact Nat.not_le.mp fun q => h1 (Or.inr q)
