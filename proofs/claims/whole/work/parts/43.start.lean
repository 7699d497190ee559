def f00 : F3 := fun _ _ _ => 0
def g00 : G3 := fun _ _ _ => (99, 0)
def INIT1 : Option (Nat × F3 × G3) := A_X6_init 1 (zf f00 0 0) (zg g00 0 0)
def INIT : Option (Nat × F3 × G3) := mm_b3 INIT1 fun n f g => if n = 88 then A_X7_init 89 (zf f 20 0) (zg g 20 0) else none
/-- the ints at the start -/
def F00 : F3 := fun r i k => match r with
  | 0 => if k = 12 then 2 else 0
  | 1 => if k = 3 then (if i < 2 then 20 else 1) else if k = 4 then 1 else if 7 ≤ k then -1 else 0
  | 2 => if 4 ≤ k then -1 else 0
  | 9 => nI k
  | 14 => -9999
  | 20 => if k = 2 then 2 else 0
  | 22 => -9999
  | 33 => if k < 2 then 20 else 0
  | 34 => if k < 2 then 1 else 0
  | 37 => -1
  | 38 => -1
  | _ => 0
def isR (r k : Nat) : Bool := match r with
  | 0 => decide (k ≤ 10) | 3 => decide (6 ≤ k) | 4 => k == 0 | 5 => k == 0 | 6 => true | 7 => true | 8 => true | 9 => true | 10 => true
  | 20 => !([1, 2, 13, 21, 24, 27, 28, 29, 30, 31].contains k)
  | _ => false
def chkI (q : Nat × F3 × G3) : Bool := q.1 == 113 && (List.range 47).all fun r => (List.range (mm_cnt r)).all fun i => (List.range (mm_wid r)).all fun k => if isR r k then q.2.2 r i k == GG F00 r i k else q.2.1 r i k == F00 r i k
theorem init_chk : INIT.map chkI = some true := by decide +kernel
theorem init_at {q : Nat × F3 × G3} (h : chkI q = true) : q.1 = 113 ∧ ∀ r, r < 47 → ∀ i, i < mm_cnt r → ∀ k, k < mm_wid r → (isR r k = false → q.2.1 r i k = F00 r i k) ∧ (isR r k = true → q.2.2 r i k = GG F00 r i k) := by
  simp only [chkI, Bool.and_eq_true, beq_iff_eq, List.all_eq_true, List.mem_range] at h
  refine ⟨h.1, fun r hr i hi k hk => ?_⟩
  have h1 := h.2 r hr i hi k hk
  refine ⟨fun e => ?_, fun e => ?_⟩
  · rw [e] at h1
    simpa using h1
  · rw [e] at h1
    simpa using h1
theorem arrV_congr {c : ClassId} {N : Nat} {z1 z2 : Nat → Value} (h : ∀ j, j < N → z1 j = z2 j) : arrV c N z1 = arrV c N z2 := by
  have : (fun j : Fin N => z1 j.val) = fun j : Fin N => z2 j.val := funext fun j => h j.val j.isLt
  unfold arrV
  rw [this]
theorem mm_arrq {c : ClassId} {N a : Nat} {z1 z2 : Nat → Option Nat} {H : Heap} (hz : ∀ j, j < N → z1 j = z2 j) (h : H[a]? = some (vp_cell c (N, .inr (.inr (.inr (.inr z1)))))) : H[a]? = some (vp_cell c (N, .inr (.inr (.inr (.inr z2))))) := by
  rw [h, vp_cell_q, vp_cell_q, arrV_congr (fun j hj => by rw [hz j hj])]
theorem mm_arri {c : ClassId} {N a : Nat} {z1 z2 : Nat → Int32} {H : Heap} (hz : ∀ j, j < N → z1 j = z2 j) (h : H[a]? = some (vp_cell c (N, .inl z1))) : H[a]? = some (vp_cell c (N, .inl z2)) := by
  rw [h, vp_cell_i, vp_cell_i, arrV_congr (fun j hj => by rw [hz j hj])]
set_option maxHeartbeats 4000000 in
set_option maxRecDepth 100000 in
theorem mm_entEq {G : mmG} {r a : Nat} {f1 f2 : Nat → Int32} {g1 g2 : Nat → Nat × Nat} {H : Heap} (hf : ∀ k, k < mm_wid r → isR r k = false → f1 k = f2 k) (hg : ∀ k, k < mm_wid r → isR r k = true → g1 k = g2 k) (h : va_at G.2.1 vwCl (a, mm_ent G r f1 g1) H) : va_at G.2.1 vwCl (a, mm_ent G r f2 g2) H := by
  by_cases h0 : r = 0
  · subst h0
    have e : mm_ent G 0 f1 g1 = mm_ent G 0 f2 g2 := by
      simp only [mm_ent, hg 0 (by decide) (by decide), hg 1 (by decide) (by decide), hg 2 (by decide) (by decide), hg 3 (by decide) (by decide), hg 4 (by decide) (by decide), hg 5 (by decide) (by decide), hg 6 (by decide) (by decide), hg 7 (by decide) (by decide), hg 8 (by decide) (by decide), hg 9 (by decide) (by decide), hg 10 (by decide) (by decide), hf 11 (by decide) (by decide), hf 12 (by decide) (by decide), hf 13 (by decide) (by decide), hf 14 (by decide) (by decide), hf 15 (by decide) (by decide)]
    rw [← e]; exact h
  by_cases h1 : r = 1
  · subst h1
    have e : mm_ent G 1 f1 g1 = mm_ent G 1 f2 g2 := by
      simp only [mm_ent, hf 0 (by decide) (by decide), hf 1 (by decide) (by decide), hf 2 (by decide) (by decide), hf 3 (by decide) (by decide), hf 4 (by decide) (by decide), hf 5 (by decide) (by decide), hf 6 (by decide) (by decide), hf 7 (by decide) (by decide), hf 8 (by decide) (by decide), hf 9 (by decide) (by decide)]
    rw [← e]; exact h
  by_cases h2 : r = 2
  · subst h2
    have e : mm_ent G 2 f1 g1 = mm_ent G 2 f2 g2 := by
      simp only [mm_ent, hf 0 (by decide) (by decide), hf 1 (by decide) (by decide), hf 2 (by decide) (by decide), hf 3 (by decide) (by decide), hf 4 (by decide) (by decide), hf 5 (by decide) (by decide), hf 6 (by decide) (by decide)]
    rw [← e]; exact h
  by_cases h3 : r = 3
  · subst h3
    have e : mm_ent G 3 f1 g1 = mm_ent G 3 f2 g2 := by
      simp only [mm_ent, hf 0 (by decide) (by decide), hf 1 (by decide) (by decide), hf 2 (by decide) (by decide), hf 3 (by decide) (by decide), hf 4 (by decide) (by decide), hf 5 (by decide) (by decide), hg 6 (by decide) (by decide), hg 7 (by decide) (by decide), hg 8 (by decide) (by decide)]
    rw [← e]; exact h
  by_cases h4 : r = 4
  · subst h4
    have e : mm_ent G 4 f1 g1 = mm_ent G 4 f2 g2 := by
      simp only [mm_ent, hg 0 (by decide) (by decide), hf 1 (by decide) (by decide)]
    rw [← e]; exact h
  by_cases h5 : r = 5
  · subst h5
    have e : mm_ent G 5 f1 g1 = mm_ent G 5 f2 g2 := by
      simp only [mm_ent, hg 0 (by decide) (by decide), hf 1 (by decide) (by decide)]
    rw [← e]; exact h
  by_cases h6 : r = 6
  · subst h6
    have e : mm_ent G 6 f1 g1 = mm_ent G 6 f2 g2 := by
      simp only [mm_ent, hg 0 (by decide) (by decide)]
    rw [← e]; exact h
  by_cases h20 : r = 20
  · subst h20
    have e : mm_ent G 20 f1 g1 = mm_ent G 20 f2 g2 := by
      simp only [mm_ent, hg 0 (by decide) (by decide), hf 1 (by decide) (by decide), hf 2 (by decide) (by decide), hg 3 (by decide) (by decide), hg 4 (by decide) (by decide), hg 5 (by decide) (by decide), hg 6 (by decide) (by decide), hg 7 (by decide) (by decide), hg 8 (by decide) (by decide), hg 9 (by decide) (by decide), hg 10 (by decide) (by decide), hg 11 (by decide) (by decide), hg 12 (by decide) (by decide), hf 13 (by decide) (by decide), hg 14 (by decide) (by decide), hg 15 (by decide) (by decide), hg 16 (by decide) (by decide), hg 17 (by decide) (by decide), hg 18 (by decide) (by decide), hg 19 (by decide) (by decide), hg 20 (by decide) (by decide), hf 21 (by decide) (by decide), hg 22 (by decide) (by decide), hg 23 (by decide) (by decide), hf 24 (by decide) (by decide), hg 25 (by decide) (by decide), hg 26 (by decide) (by decide), hf 27 (by decide) (by decide), hf 28 (by decide) (by decide), hf 29 (by decide) (by decide), hf 30 (by decide) (by decide), hf 31 (by decide) (by decide), hg 32 (by decide) (by decide), hg 33 (by decide) (by decide)]
    rw [← e]; exact h
  by_cases h7 : r = 7
  · subst h7
    have h : H[a]? = some (vp_cell (G.2.2.1 2) (10, .inr (.inr (.inr (.inr (fun k => mm_ro G (g1 k))))))) := h
    have h2 := mm_arrq (z2 := fun k => mm_ro G (g2 k)) (fun j hj => by show mm_ro G (g1 j) = mm_ro G (g2 j); rw [hg j hj rfl]) h
    exact h2
  by_cases h8 : r = 8
  · subst h8
    have h : H[a]? = some (vp_cell (G.2.2.1 3) (24, .inr (.inr (.inr (.inr (fun k => mm_ro G (g1 k))))))) := h
    have h2 := mm_arrq (z2 := fun k => mm_ro G (g2 k)) (fun j hj => by show mm_ro G (g1 j) = mm_ro G (g2 j); rw [hg j hj rfl]) h
    exact h2
  by_cases h9 : r = 9
  · subst h9
    have h : H[a]? = some (vp_cell (G.2.2.1 3) (24, .inr (.inr (.inr (.inr (fun k => mm_ro G (g1 k))))))) := h
    have h2 := mm_arrq (z2 := fun k => mm_ro G (g2 k)) (fun j hj => by show mm_ro G (g1 j) = mm_ro G (g2 j); rw [hg j hj rfl]) h
    exact h2
  by_cases h10 : r = 10
  · subst h10
    have h : H[a]? = some (vp_cell (G.2.2.1 4) (10, .inr (.inr (.inr (.inr (fun k => mm_ro G (g1 k))))))) := h
    have h2 := mm_arrq (z2 := fun k => mm_ro G (g2 k)) (fun j hj => by show mm_ro G (g1 j) = mm_ro G (g2 j); rw [hg j hj rfl]) h
    exact h2
  by_cases h24 : r = 24
  · subst h24
    have h : H[a]? = some (vp_cell (G.2.2.1 1) (24, .inl f1)) := h
    have h2 := mm_arri (z2 := f2) (fun j hj => hf j hj rfl) h
    exact h2
  have ew : mm_wid r = mm_len r := by unfold mm_wid; split <;> first | contradiction | rfl
  have er : ∀ k, isR r k = false := by intro k; unfold isR; split <;> first | contradiction | rfl
  have e1 : ∀ fv gv, mm_ent G r fv gv = .inl (G.2.2.1 0, mm_len r, .inl fv) := by intro fv gv; unfold mm_ent; split <;> first | contradiction | rfl
  rw [e1] at h ⊢
  have h : H[a]? = some (vp_cell (G.2.2.1 0) (mm_len r, .inl f1)) := h
  have h2 := mm_arri (z2 := f2) (fun j hj => hf j (by rw [ew]; exact hj) (er j)) h
  exact h2
theorem mm_loc_ok : ∀ j, j < mm_NT → (mm_loc j).1 < 47 ∧ (mm_loc j).2 < mm_cnt (mm_loc j).1 := by decide +kernel
theorem mm_ready {G : mmG} {f : F3} {g : G3} {s : State} {H : Heap} {locs : List Loc} (hN : mm_N G 113 f g s H locs) (hc : chkI (113, f, g) = true) : mm_R G mm_NT F00 (GG F00) s H locs := by
  obtain ⟨⟨hP, hK, hS, hT⟩, -, -⟩ := hN
  obtain ⟨-, hq⟩ := init_at hc
  refine ⟨?_, hK, hS, hT⟩
  intro k x hx
  have hk : k < mm_NT := by
    have := (List.getElem?_eq_some_iff.mp hx).1
    unfold mm_wl at this
    simpa using this
  obtain ⟨o1, o2⟩ := mm_loc_ok k hk
  have hx2 : x = (mm_n0 G + k, mm_ent G (mm_loc k).1 (F00 (mm_loc k).1 (mm_loc k).2) (GG F00 (mm_loc k).1 (mm_loc k).2)) := by
    unfold mm_wl at hx
    rw [List.getElem?_map, List.getElem?_range hk] at hx
    exact (Option.some.inj hx).symm
  have h1 := hP k (mm_n0 G + k, mm_ent G (mm_loc k).1 (f (mm_loc k).1 (mm_loc k).2) (g (mm_loc k).1 (mm_loc k).2)) (by
    unfold mm_wl
    rw [List.getElem?_map, List.getElem?_range hk]
    rfl)
  rw [hx2]
  exact mm_entEq (fun j hj e => (hq _ o1 _ o2 j hj).1 e) (fun j hj e => (hq _ o1 _ o2 j hj).2 e) h1
theorem mm_newG {p : Program} {l : Launch} {e : Env} {R : Room} {s : State} {m : MethodId} {args : Array Value} {below : List Frame} {meth : Method} {c : Code} {H : Heap} {locs : List Loc} {cells slots : Nat} {Q : State → Prop} {cc : ByteArray} {pc : Nat} {ls : Array Slot} {rest : List Value} {G : mmG} {n : Nat} {f : F3} {g : G3} {own : String} {index : Nat} (hx : p.tables.exec = Jvm.exec) (hb : c.code = cc) (hts : ∀ w ∈ BIG, w.before args s = true) (hown : s.vm.findClass own = some m.cls) (hN : mm_N G n f g s H locs) (r i : Nat) (hg : n < mm_NT ∧ mm_loc n = (r, i))
    {ci N : Nat} {C : String} {T : u_T} {fs : List Value} (he : mm_ent G r (fun _ => 0) (fun _ => (99, 0)) = .inr (ci, fs)) (hc : vwCl[ci]? = some (C, T, N)) (hin : ∀ w ∈ u_ws C T N, w ∈ BIG) (ty0 : Nat → FieldType) (hty : ∀ k, k < N → parseFieldDescriptor (T k).2.2.1 = some (ty0 k)) (hcl : Cond.classLink own index C ∈ BIG) (hins : Cond.instantiable C N ∈ BIG) (hini : Cond.initialized C ∈ BIG) (hfs : ∀ j, j < N → defaultValue (ty0 j) = vp_V fs j) (hcs : cells + 1 ≤ R.cells ∧ slots + N ≤ R.slots) (hdg : decode cc pc = .ok (.new index, 3))
    (kk : ∀ (H1 : Heap), mm_N G (n + 1) (zf f r i) (zg g r i) s H1 locs → W p l e R s m args below meth c H1 locs (cells + 1) (slots + N) Q (F0 m (pc + 3) ls (.ref (ra G r i) :: rest))) : W p l e R s m args below meth c H locs cells slots Q (F0 m pc ls rest) := by
  obtain ⟨h2, h3⟩ := hg
  have hKn := hN.1.2.1.1 ci _ hc
  refine W.newcK hx hb hown (hts _ hcl) (hts _ hins) (hts _ hini) rfl hdg hcs.1 hcs.2 hKn.2.1 rfl fun H1 kC hkC e1 z1 o1 => ?_
  have hsz := hN.2.1
  have hAD := mm_AD_of h2 h3
  have := kk H1 (mm_grow hN h2 h3 z1 o1 (by
    show va_at _ _ (mm_n0 G + n, mm_ent G r _ _) _
    rw [he, ← hsz]
    exact ⟨_, hc, (u_born ty0 hts hin hKn hkC e1 hty).to hfs⟩))
  rw [show ra G r i = H.size by unfold ra; rw [hAD, hsz]] at this
  exact this
theorem mm_callIG {p : Program} {l : Launch} {e : Env} {R : Room} {s : State} {m : MethodId} {args : Array Value} {below : List Frame} {meth : Method} {c : Code} {H : Heap} {locs : List Loc} {cells slots : Nat} {Q : State → Prop} {cc : ByteArray} {pc nL : Nat} {ls : Array Slot} {rest : List Value} {G : mmG} {n : Nat} {f : F3} {g : G3} {own : String} {index : Nat} {y0 : MethodName} {cc0 : ByteArray} {nL0 d0 mc0 n1 : Nat} {f1 : F3} {g1 : G3} (As : List Value) {st0 : List Value} {b : Nat} (hx : p.tables.exec = Jvm.exec) (hb : c.code = cc) (hml : c.maxLocals = nL) (hown : s.vm.findClass own = some m.cls) (hts : ∀ w ∈ BIG, w.before args s = true) (hl : l = G.1) (hN : mm_N G n f g s H locs) (hM : mmMA G y0 cc0 nL0 d0 (.ref b :: As) n f g mc0 n1 f1 g1) (hw : mmWi y0 cc0 nL0) (hlk : Cond.methodLink own index y0 ∈ BIG) (hnm : y0.name = "<init>")
    (hd : y0.cls ≠ "java/lang/invoke/MethodHandle" ∧ y0.cls ≠ "java/lang/invoke/VarHandle" ∧ (parseMethodDescriptor y0.desc).map (fun d => d.parameters.length) = some As.length) (hRm : d0 + 1 ≤ R.frames ∧ 8 + (nL0 + 11) + 36 * d0 ≤ R.locals) (hcs : cells + mc0 ≤ R.cells ∧ slots + (SL (n + mc0) - SL n) ≤ R.slots)
    (hls : ls.size = nL) (hst : st0 = As.reverse ++ .ref b :: rest) (hroom : (rest.map fun v => v.category).sum ≤ 8) (hdg : decode cc pc = .ok (.invokespecial index, 3))
    (kk : ∀ (H1 : Heap) (locs1 : List Loc), mm_N G n1 f1 g1 s H1 locs1 → W p l e R s m args below meth c H1 locs1 (cells + mc0) (slots + (SL (n + mc0) - SL n)) Q (F0 m (pc + 3) ls rest)) : W p l e R s m args below meth c H locs cells slots Q (F0 m pc ls st0) := by
  subst hl
  exact mm_callA hN (va_runI (As := As) (rest := rest) (own := own) (b := b) ⟨hx, hb, hml, hown, hts⟩ hM ⟨callB_of As.length hts (mm_goodI hw.2.2) rfl rfl rfl (hts _ hw.2.1) (hts _ hlk) ⟨hd.1, hd.2.1, hd.2.2⟩ ⟨hRm.1, hRm.2⟩, hnm, hts _ hw.1⟩ ⟨mm_blindA, fun U hU hW => ⟨rfl, hN.1.B hU hW, by rw [hU]; exact hN.2.1, hN.2.2.warm hW⟩⟩ rfl rfl hls hst (lv_room hroom) hdg hcs) rfl kk
theorem kL_1 : Cond.classLink RL 7 "IceRoad" ∈ BIG := mm_bigI 80 (by decide +kernel) rfl
theorem kL_2 : Cond.instantiable "IceRoad" 16 ∈ BIG := mm_bigI 81 (by decide +kernel) rfl
theorem kL_3 : Cond.initialized "IceRoad" ∈ BIG := mm_big (by decide +kernel) rfl
theorem kL_4 : Cond.classLink RL 10 "IceRoadModel" ∈ BIG := mm_bigI 704 (by decide +kernel) rfl
theorem kL_5 : Cond.instantiable "IceRoadModel" 34 ∈ BIG := mm_bigI 705 (by decide +kernel) rfl
theorem kL_6 : Cond.initialized "IceRoadModel" ∈ BIG := mm_big (by decide +kernel) rfl
theorem kL_7 : Cond.methodLink RL 9 yX6_init ∈ BIG := mm_big (by decide +kernel) rfl
theorem kL_8 : Cond.methodLink RL 12 yX7_init ∈ BIG := mm_big (by decide +kernel) rfl
theorem SL_1 : SL (0 + 1 + 87) - SL (0 + 1) ≤ 2000 ∧ SL (88 + 1 + 24) - SL (88 + 1) ≤ 3000 := by decide +kernel
set_option maxHeartbeats 4000000 in
set_option maxRecDepth 100000 in
theorem start_open {p : Program} {e : Env} {s : State} {m : MethodId} {below : List Frame} {meth : Method} {c : Code} (l : Launch) {b L : Nat} {xs : Nat → Int32} (hL : L ≤ 2048) (C0 : lw_At p s m meth c b L xs) (Inv : Nat → F3 → Prop) (hmono : ∀ (j : Nat) (f : F3), Inv j f → Inv (j + 4) f) (hI0 : Inv 0 F00)
    (h0 : ∀ (j : Nat) (f : F3) (a b c : Int32), j + 4 ≤ 2048 → Inv j f → ST (Inv (j + 4)) (fun f => S_X6_cell f a b (bz c)) (fun f => S_X7_cell f a b (bz c)) f)
    (h1 : ∀ (j : Nat) (f : F3) (a b c : Int32), j + 4 ≤ 2048 → Inv j f → ST (Inv (j + 4)) (fun f => S_X6_look f a b) (fun f => S_X7_look f a b) f)
    (h2 : ∀ (j : Nat) (f : F3) (a b c : Int32), j + 4 ≤ 2048 → Inv j f → ST (Inv (j + 4)) (fun f => S_X6_thick f a b) (fun f => S_X7_thick f a b) f)
    (h3 : ∀ (j : Nat) (f : F3) (a b c : Int32), j + 4 ≤ 2048 → Inv j f → ST (Inv (j + 4)) (fun f => S_X6_read f a) (fun f => S_X7_read f a) f)
    (h4 : ∀ (j : Nat) (f : F3) (a b c : Int32), j + 4 ≤ 2048 → Inv j f → ST (Inv (j + 4)) (fun f => S_X6_bears f a b) (fun f => S_X7_bears f a b) f)
    (h5 : ∀ (j : Nat) (f : F3) (a b c : Int32), j + 4 ≤ 2048 → Inv j f → ST (Inv (j + 4)) (fun f => S_X6_weather f a b) (fun f => S_X7_weather f a b) f)
    (h6 : ∀ (j : Nat) (f : F3) (a b c : Int32), j + 4 ≤ 2048 → Inv j f → ST (Inv (j + 4)) (fun f => S_X6_cold f ) (fun f => S_X7_cold f ) f)
    (h7 : ∀ (j : Nat) (f : F3) (a b c : Int32), j + 4 ≤ 2048 → Inv j f → ST (Inv (j + 4)) (fun f => S_X6_heat f a) (fun f => S_X7_heat f a) f)
    (h8 : ∀ (j : Nat) (f : F3) (a b c : Int32), j + 4 ≤ 2048 → Inv j f → ST (Inv (j + 4)) (fun f => S_X6_sweep f a) (fun f => S_X7_sweep f a) f)
    (h9 : ∀ (j : Nat) (f : F3) (a b c : Int32), j + 4 ≤ 2048 → Inv j f → ST (Inv (j + 4)) (fun f => S_X6_flood f a) (fun f => S_X7_flood f a) f)
    (h10 : ∀ (j : Nat) (f : F3) (a b c : Int32), j + 4 ≤ 2048 → Inv j f → ST (Inv (j + 4)) (fun f => S_X6_bypass f a) (fun f => S_X7_bypass f a) f)
    (h11 : ∀ (j : Nat) (f : F3) (a b c : Int32), j + 4 ≤ 2048 → Inv j f → ST (Inv (j + 4)) (fun f => S_X6_snow f a) (fun f => S_X7_snow f a) f)
    (h12 : ∀ (j : Nat) (f : F3) (a b c : Int32), j + 4 ≤ 2048 → Inv j f → ST (Inv (j + 4)) (fun f => S_X6_load f a b c) (fun f => S_X7_load f a b c) f)
    (h13 : ∀ (j : Nat) (f : F3) (a b c : Int32), j + 4 ≤ 2048 → Inv j f → ST (Inv (j + 4)) (fun f => S_X6_of f a b) (fun f => S_X7_of f a b) f)
    (h14 : ∀ (j : Nat) (f : F3) (a b c : Int32), j + 4 ≤ 2048 → Inv j f → ST (Inv (j + 4)) (fun f => S_X6_may f a b) (fun f => S_X7_may f a b) f)
    (h15 : ∀ (j : Nat) (f : F3) (a b c : Int32), j + 4 ≤ 2048 → Inv j f → ST (Inv (j + 4)) (fun f => S_X6_why f a b) (fun f => S_X7_why f a b) f)
    (h16 : ∀ (j : Nat) (f : F3) (a b c : Int32), j + 4 ≤ 2048 → Inv j f → ST (Inv (j + 4)) (fun f => S_X6_turn f a) (fun f => S_X7_turn f a) f)
    (h17 : ∀ (j : Nat) (f : F3) (a b c : Int32), j + 4 ≤ 2048 → Inv j f → ST (Inv (j + 4)) (fun f => S_X6_run f a) (fun f => S_X7_run f a) f)
    (h18 : ∀ (j : Nat) (f : F3) (a b c : Int32), j + 4 ≤ 2048 → Inv j f → ST (Inv (j + 4)) (fun f => S_X6_thaw f a b) (fun f => S_X7_thaw f a b) f)
    (h19 : ∀ (j : Nat) (f : F3) (a b c : Int32), j + 4 ≤ 2048 → Inv j f → ST (Inv (j + 4)) (fun f => S_X6_feed f a b) (fun f => S_X7_feed f a b) f)
    (h20 : ∀ (j : Nat) (f : F3) (a b c : Int32), j + 4 ≤ 2048 → Inv j f → ST (Inv (j + 4)) (fun f => S_X6_wipe f ) (fun f => S_X7_wipe f ) f)
    (h21 : ∀ (j : Nat) (f : F3) (a b c : Int32), j + 4 ≤ 2048 → Inv j f → ST (Inv (j + 4)) (fun f => S_X6_rule f a b) (fun f => S_X7_rule f a b) f)
    (h22 : ∀ (j : Nat) (f : F3) (a b c : Int32), j + 4 ≤ 2048 → Inv j f → ST (Inv (j + 4)) (fun f => S_X6_said f a b c) (fun f => S_X7_said f a b c) f)
    (h23 : ∀ (j : Nat) (f : F3) (a b c : Int32), j + 4 ≤ 2048 → Inv j f → ST (Inv (j + 4)) (fun f => S_X6_count f a) (fun f => S_X7_count f a) f)
    (h24 : ∀ (j : Nat) (f : F3) (a b c : Int32), j + 4 ≤ 2048 → Inv j f → ST (Inv (j + 4)) (fun f => S_X6_tell f a b) (fun f => S_X7_tell f a b) f)
    (h25 : ∀ (j : Nat) (f : F3) (a b c : Int32), j + 4 ≤ 2048 → Inv j f → ST (Inv (j + 4)) (fun f => S_X6_tear f ) (fun f => S_X7_tear f ) f)
    (h26 : ∀ (j : Nat) (f : F3) (a b c : Int32), j + 4 ≤ 2048 → Inv j f → ST (Inv (j + 4)) (fun f => S_X6_row f a) (fun f => S_X7_row f a) f)
    (h27 : ∀ (j : Nat) (f : F3) (a b c : Int32), j + 4 ≤ 2048 → Inv j f → ST (Inv (j + 4)) (fun f => S_X6_copy f a b c) (fun f => S_X7_copy f a b c) f)
    (h28 : ∀ (j : Nat) (f : F3) (a b c : Int32), j + 4 ≤ 2048 → Inv j f → ST (Inv (j + 4)) (fun f => S_X6_status f a) (fun f => S_X7_status f a) f) : W p l e room_1 s m #[Value.ref b] below meth c s.heap [] 0 0 (lw_Z below #[Value.ref b] s) (entryFrame m ([Value.ref b] : List Value).toArray 4) := by
  obtain ⟨hx, hb, hr, hml, hown, hts0, hX, hbl, hlocks, hgv⟩ := id C0
  have hts : ∀ w ∈ BIG, w.before #[Value.ref b] s = true := fun w hw => hts0 w (List.mem_filter.mp hw).1
  have hown : s.vm.findClass RL = some m.cls := hown
  obtain ⟨G, hG, hn0, hK, hS, hXX⟩ := st_ghost l C0
  have hl0 : l = G.1 := hG.symm
  have hq0 := init_chk
  obtain ⟨q, hq, hqc⟩ : ∃ q, INIT = some q ∧ chkI q = true := by
    cases hI : INIT with
    | none => rw [hI] at hq0; cases hq0
    | some q => rw [hI] at hq0; exact ⟨q, rfl, Option.some.inj hq0⟩
  have hq1 := (init_at hqc).1
  obtain ⟨n2, f2, g2⟩ := q
  dsimp only at hq1
  subst hq1
  unfold INIT INIT1 at hq
  obtain ⟨n1, f1, g1, hA1, hq⟩ := mm_b3e hq
  obtain ⟨hn1, hA2⟩ := mm_if hq
  subst hn1
  have hN : mm_N G 0 f00 g00 s s.heap [] := ⟨⟨fun k x hx => by simp [mm_wl] at hx, hK, va_S.rf, hS⟩, by rw [hn0]; rfl, hXX⟩
  have hl := lv_entry ([.ref b]) (n := 4) (Nat.le_of_ble_eq_true rfl)
  rw [lg_entry_eq]
  generalize (lg_sl ([.ref b]) ++ List.replicate (4 - (lg_sl ([.ref b])).length) Slot.unset).toArray = ls at hl ⊢
  have hl : lv_has ls 4 [(0, .ref b)] := hl
  obtain ⟨s2, s3⟩ := SL_1
  refine mm_newG hx hb hts hown hN 0 0 ⟨by decide, by decide⟩ rfl rfl iX6 tyX6 tyX6_ok kL_1 kL_2 kL_3 df_X6 ⟨by decide, by decide⟩ dL_law_0 (fun H hN => ?_)
  refine lv_dup hx hb dL_law_3 rfl ?_
  refine mm_callIG (d0 := 3) (mc0 := 87) (rest := [.ref (ra G 0 0)]) [] hx hb hml hown hts hl0 hN (TA_X6_init G hA1) wi_X6_init kL_7 rfl hdA_X6_init ⟨by decide, by decide⟩ ⟨by decide, by show _ ≤ 7302250; omega⟩ hl.1 rfl (Nat.le_of_ble_eq_true rfl) dL_law_4 (fun H locs hN => ?_)
  refine W.widen (k := 200) (n := 5000) (by decide) (by omega) ?_
  refine W.eq (g2 := F0 m 7 ls [.ref (ra G 0 0)]) rfl ?_
  refine lv_astore_n (lv' := [(1, .ref (ra G 0 0)), (0, .ref b)]) hx hb dL_law_7 rfl hl (by decide) rfl (fun ls hl => ?_)
  refine mm_newG hx hb hts hown hN 20 0 ⟨by decide, by decide⟩ rfl rfl iX7 tyX7 tyX7_ok kL_4 kL_5 kL_6 df_X7 ⟨by decide, by decide⟩ dL_law_8 (fun H hN => ?_)
  refine lv_dup hx hb dL_law_11 rfl ?_
  refine mm_callIG (d0 := 1) (mc0 := 24) (rest := [.ref (ra G 20 0)]) [] hx hb hml hown hts hl0 hN (TA_X7_init G hA2) wi_X7_init kL_8 rfl hdA_X7_init ⟨by decide, by decide⟩ ⟨by decide, by show _ ≤ 7302250; omega⟩ hl.1 rfl (Nat.le_of_ble_eq_true rfl) dL_law_12 (fun H locs hN => ?_)
  refine W.widen (k := 300) (n := 10000) (by decide) (by omega) ?_
  refine W.eq (g2 := F0 m 15 ls [.ref (ra G 20 0)]) rfl ?_
  refine lv_astore_n (lv' := [(2, .ref (ra G 20 0)), (1, .ref (ra G 0 0)), (0, .ref b)]) hx hb dL_law_15 rfl hl (by decide) rfl (fun ls hl => ?_)
  refine lv_iconst (v := 0) hx hb dL_law_16 (by decide) ?_
  refine lv_istore_n (lv' := [(3, .int 0), (2, .ref (ra G 20 0)), (1, .ref (ra G 0 0)), (0, .ref b)]) hx hb dL_law_17 rfl hl (by decide) rfl (fun ls hl => ?_)
  exact law_loop hl0 C0 hn0 ⟨by decide, by decide⟩ hL Inv hmono h0 h1 h2 h3 h4 h5 h6 h7 h8 h9 h10 h11 h12 h13 h14 h15 h16 h17 h18 h19 h20 h21 h22 h23 h24 h25 h26 h27 h28 (L + 1) 0 F00 H locs ls (Nat.zero_le L) (by omega) hI0 (mm_ready hN hqc) (lv_sub hl [3, 2, 1, 0] rfl)
