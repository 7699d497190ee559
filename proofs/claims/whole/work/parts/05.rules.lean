section MMR
variable {p : Program} {e : Env} {R : Room} {s : State} {m : MethodId} {args : Array Value} {below : List Frame} {meth : Method} {c : Code} {H : Heap} {locs : List Loc} {cells slots : Nat} {Q : State → Prop}
variable {cc : ByteArray} {pc nL : Nat} {ls : Array Slot} {rest : List Value} {G : mmG} {n : Nat} {f f1 : F3} {g : G3} {own : String} {index : Nat}
/-- getfield of a cell of the world -/
theorem mm_get {l : Launch} (hx : p.tables.exec = Jvm.exec) (hb : c.code = cc) (hts : ∀ w ∈ BIG, w.before args s = true) (hown : s.vm.findClass own = some m.cls) (hR : mm_R G n f g s H locs) (r i k : Nat) (hv : AD r i < n ∧ mm_loc (AD r i) = (r, i))
    {ci N : Nat} {C : String} {T : u_T} {fs : List Value} {v : Value} (he : mm_ent G r (f r i) (g r i) = .inr (ci, fs)) (hc : vwCl[ci]? = some (C, T, N)) (hin : ∀ w ∈ u_ws C T N, w ∈ BIG) (hk : k < N) (hlink : Cond.fieldLink own index (T k).1 (T k).2.1 (T k).2.2.1 ∈ BIG) (hval : fs[k]? = some v) (hdg : decode cc pc = .ok (.getfield index, 3))
    (kk : W p l e R s m args below meth c H locs cells slots Q (F0 m (pc + 3) ls (v :: rest))) : W p l e R s m args below meth c H locs cells slots Q (F0 m pc ls (.ref (ra G r i) :: rest)) := by
  obtain ⟨hP, hK, hS, hT⟩ := hR
  exact va_get hx hb hts hin hown hK hP (AD r i) (by rw [mm_wl_at hv.1 hv.2, he]) hc k hk (hts _ hlink) (fun _ h => h) hval hdg kk
/-- putfield of an int (or a boolean 0, 1) into a cell of the world -/
theorem mm_put {l : Launch} (hx : p.tables.exec = Jvm.exec) (hb : c.code = cc) (hts : ∀ w ∈ BIG, w.before args s = true) (hown : s.vm.findClass own = some m.cls) (hR : mm_R G mm_NT f (GG f) s H locs) (r i k : Nat) (hr9 : r ≠ 9) (hv : AD r i < mm_NT ∧ mm_loc (AD r i) = (r, i))
    {ci N : Nat} {C : String} {T : u_T} {fs : List Value} {x : Int32} (he : mm_ent G r (f r i) (GG f r i) = .inr (ci, fs)) (hc : vwCl[ci]? = some (C, T, N)) (hin : ∀ w ∈ u_ws C T N, w ∈ BIG) (ty0 : Nat → FieldType) (hty : ∀ k, k < N → parseFieldDescriptor (T k).2.2.1 = some (ty0 k)) (hnm : ∀ a, a < N → ∀ b, b < N → a ≠ b → (T a).2.1 ≠ (T b).2.1) (hk : k < N) (hlink : Cond.fieldLink own index (T k).1 (T k).2.1 (T k).2.2.1 ∈ BIG) (hfin : (T k).2.2.2 = false)
    (hn : narrow (ty0 k) (.int x) = .int x) (hfit : fits (ty0 k) (.int x) = true) (hl : k < fs.length) (hset : (Sum.inr (ci, fs.set k (.int x)) : va_E) = mm_ent G r (upd (f r i) k x) (GG f r i)) (hdg : decode cc pc = .ok (.putfield index, 3))
    (kk : ∀ (H1 : Heap) (locs1 : List Loc), mm_R G mm_NT (up f r i k x) (GG (up f r i k x)) s H1 locs1 → W p l e R s m args below meth c H1 locs1 cells slots Q (F0 m (pc + 3) ls rest)) : W p l e R s m args below meth c H locs cells slots Q (F0 m pc ls (.int x :: .ref (ra G r i) :: rest)) := by
  obtain ⟨hP, hK, hS, hT⟩ := hR
  refine va_put hx hb hts hin ty0 hty hnm hown hK hP (mm_wl_D G mm_NT f (GG f)) hS (AD r i) (by rw [mm_wl_at hv.1 hv.2, he]) hc k hk (hts _ hlink) (fun _ h => h) hfin (hty k hk) hn hfit hl hdg (fun H1 locs1 hP1 hD1 hS1 => kk H1 locs1 ⟨?_, hK, hS1, hT⟩)
  rw [mm_wl_set (f' := up f r i k x) (g' := GG (up f r i k x)) (Nat.le_refl _) hv.2 (fun r' i' h => ⟨up_other f r i k x h, by rw [GG_up hr9]⟩) (by rw [up_self, GG_up hr9]; exact hset)] at hP1
  exact hP1
/-- iaload -/
theorem mm_ild {l : Launch} (hx : p.tables.exec = Jvm.exec) (hb : c.code = cc) (hR : mm_R G n f g s H locs) (r i : Nat) (hv : AD r i < n ∧ mm_loc (AD r i) = (r, i)) {L : Nat} (he : mm_ent G r (f r i) (g r i) = .inl (G.2.2.1 0, L, .inl (f r i))) {j : Int32} (hin : vp_in j L) (hdg : decode cc pc = .ok (.iaload, 1))
    (kk : W p l e R s m args below meth c H locs cells slots Q (F0 m (pc + 1) ls (.int (f r i j.toNatClampNeg) :: rest))) : W p l e R s m args below meth c H locs cells slots Q (F0 m pc ls (.int j :: .ref (ra G r i) :: rest)) := by
  obtain ⟨hP, hK, hS, hT⟩ := hR
  exact va_iald hx hb hK hP (AD r i) 0 (by rw [mm_wl_at hv.1 hv.2, he]) rfl hin hdg kk
theorem mm_zld {l : Launch} (hx : p.tables.exec = Jvm.exec) (hb : c.code = cc) (hR : mm_R G n f g s H locs) (r i : Nat) (hv : AD r i < n ∧ mm_loc (AD r i) = (r, i)) {L : Nat} (he : mm_ent G r (f r i) (g r i) = .inl (G.2.2.1 1, L, .inl (f r i))) {j : Int32} (hin : vp_in j L) (hdg : decode cc pc = .ok (.baload, 1))
    (kk : W p l e R s m args below meth c H locs cells slots Q (F0 m (pc + 1) ls (.int (f r i j.toNatClampNeg) :: rest))) : W p l e R s m args below meth c H locs cells slots Q (F0 m pc ls (.int j :: .ref (ra G r i) :: rest)) := by
  obtain ⟨hP, hK, hS, hT⟩ := hR
  exact va_zald hx hb hK hP (AD r i) 1 (by rw [mm_wl_at hv.1 hv.2, he]) rfl hin hdg kk
/-- arraylength of a row of ints -/
theorem mm_alen {l : Launch} (hx : p.tables.exec = Jvm.exec) (hb : c.code = cc) (hR : mm_R G n f g s H locs) (r i : Nat) (hv : AD r i < n ∧ mm_loc (AD r i) = (r, i)) {L : Nat} (he : mm_ent G r (f r i) (g r i) = .inl (G.2.2.1 0, L, .inl (f r i))) {v : Int32} (hlen : Int32.ofNat L = v) (hdg : decode cc pc = .ok (.arraylength, 1))
    (kk : W p l e R s m args below meth c H locs cells slots Q (F0 m (pc + 1) ls (.int v :: rest))) : W p l e R s m args below meth c H locs cells slots Q (F0 m pc ls (.ref (ra G r i) :: rest)) := by
  obtain ⟨hP, hK, hS, hT⟩ := hR
  exact va_alen hx hb hK hP (AD r i) 0 (by rw [mm_wl_at hv.1 hv.2, he]) rfl hlen hdg kk
/-- iastore -/
theorem mm_ist {l : Launch} (hx : p.tables.exec = Jvm.exec) (hb : c.code = cc) (hR : mm_R G mm_NT f (GG f) s H locs) (r i : Nat) (hr9 : r ≠ 9) (hv : AD r i < mm_NT ∧ mm_loc (AD r i) = (r, i)) {L : Nat} (he : ∀ z : Nat → Int32, mm_ent G r z (GG f r i) = .inl (G.2.2.1 0, L, .inl z)) {j x : Int32} (hin : vp_in j L) (hdg : decode cc pc = .ok (.iastore, 1))
    (kk : ∀ (H1 : Heap) (locs1 : List Loc), mm_R G mm_NT (up f r i j.toNatClampNeg x) (GG (up f r i j.toNatClampNeg x)) s H1 locs1 → W p l e R s m args below meth c H1 locs1 cells slots Q (F0 m (pc + 1) ls rest)) : W p l e R s m args below meth c H locs cells slots Q (F0 m pc ls (.int x :: .int j :: .ref (ra G r i) :: rest)) := by
  obtain ⟨hP, hK, hS, hT⟩ := hR
  refine va_iast hx hb hK hP (mm_wl_D G mm_NT f (GG f)) hS (AD r i) 0 (by rw [mm_wl_at hv.1 hv.2, he]) rfl hin hdg (fun H1 locs1 hP1 hD1 hS1 => kk H1 locs1 ⟨?_, hK, hS1, hT⟩)
  rw [mm_wl_set (f' := up f r i j.toNatClampNeg x) (g' := GG (up f r i j.toNatClampNeg x)) (Nat.le_refl _) hv.2 (fun r' i' h => ⟨up_other f r i _ x h, by rw [GG_up hr9]⟩) (by rw [up_self, GG_up hr9]; exact (he _).symm)] at hP1
  exact hP1
theorem mm_zst {l : Launch} (hx : p.tables.exec = Jvm.exec) (hb : c.code = cc) (hR : mm_R G mm_NT f (GG f) s H locs) (r i : Nat) (hr9 : r ≠ 9) (hv : AD r i < mm_NT ∧ mm_loc (AD r i) = (r, i)) {L : Nat} (he : ∀ z : Nat → Int32, mm_ent G r z (GG f r i) = .inl (G.2.2.1 1, L, .inl z)) {j x : Int32} (hin : vp_in j L) (hz : vp_nar .boolean x = x) (hdg : decode cc pc = .ok (.bastore, 1))
    (kk : ∀ (H1 : Heap) (locs1 : List Loc), mm_R G mm_NT (up f r i j.toNatClampNeg x) (GG (up f r i j.toNatClampNeg x)) s H1 locs1 → W p l e R s m args below meth c H1 locs1 cells slots Q (F0 m (pc + 1) ls rest)) : W p l e R s m args below meth c H locs cells slots Q (F0 m pc ls (.int x :: .int j :: .ref (ra G r i) :: rest)) := by
  obtain ⟨hP, hK, hS, hT⟩ := hR
  refine va_zast hx hb hK hP (mm_wl_D G mm_NT f (GG f)) hS (AD r i) 1 (by rw [mm_wl_at hv.1 hv.2, he]) rfl hin hdg (fun H1 locs1 hP1 hD1 hS1 => kk H1 locs1 ⟨?_, hK, hS1, hT⟩)
  rw [hz, mm_wl_set (f' := up f r i j.toNatClampNeg x) (g' := GG (up f r i j.toNatClampNeg x)) (Nat.le_refl _) hv.2 (fun r' i' h => ⟨up_other f r i _ x h, by rw [GG_up hr9]⟩) (by rw [up_self, GG_up hr9]; exact (he _).symm)] at hP1
  exact hP1
/-- aaload: a cell's reference out of an array of references -/
theorem mm_ald {l : Launch} (hx : p.tables.exec = Jvm.exec) (hb : c.code = cc) (hR : mm_R G n f g s H locs) (r i t : Nat) (hv : AD r i < n ∧ mm_loc (AD r i) = (r, i)) {L : Nat} {C : String} (he : mm_ent G r (f r i) (g r i) = .inl (G.2.2.1 t, L, .inr (.inr (.inr (.inr (fun k => mm_ro G (g r i k))))))) (ht : (mm_t G)[t]? = some (G.2.2.1 t, .object C)) {j : Int32} (hin : vp_in j L) {r2 i2 : Nat} (hq : g r i j.toNatClampNeg = (r2, i2)) (h99 : r2 ≠ 99) (hdg : decode cc pc = .ok (.aaload, 1))
    (kk : W p l e R s m args below meth c H locs cells slots Q (F0 m (pc + 1) ls (.ref (ra G r2 i2) :: rest))) : W p l e R s m args below meth c H locs cells slots Q (F0 m pc ls (.int j :: .ref (ra G r i) :: rest)) := by
  obtain ⟨hP, hK, hS, hT⟩ := hR
  refine va_aldq hx hb hK hP (AD r i) t (by rw [mm_wl_at hv.1 hv.2, he]) ht hin hdg ?_
  try dsimp only
  rw [hq]
  unfold mm_ro
  rw [if_neg h99]
  exact kk
/-- moving[j] = load i2 -/
theorem mm_ast {l : Launch} (hx : p.tables.exec = Jvm.exec) (hb : c.code = cc) (hR : mm_R G mm_NT f (GG f) s H locs) {j : Int32} (hin : vp_in j 24) {i2 : Nat} (hi2 : i2 < 24) (hdg : decode cc pc = .ok (.aastore, 1))
    (kk : ∀ (H1 : Heap) (locs1 : List Loc), mm_R G mm_NT (up f 9 0 j.toNatClampNeg (nI i2)) (GG (up f 9 0 j.toNatClampNeg (nI i2))) s H1 locs1 → W p l e R s m args below meth c H1 locs1 cells slots Q (F0 m (pc + 1) ls rest)) : W p l e R s m args below meth c H locs cells slots Q (F0 m pc ls (.ref (ra G 2 i2) :: .int j :: .ref (ra G 9 0) :: rest)) := by
  obtain ⟨hP, hK, hS, hT⟩ := hR
  have hv := mm_vld 9 (by decide) 0 (by decide)
  have hw := mm_vld 2 (by decide) i2 hi2
  refine va_astq hx hb hK hP (mm_wl_D G mm_NT f (GG f)) hS (AD 9 0) 3 (AD 2 i2) 1 (r := (RX1, TX1, 7)) (by rw [mm_wl_at hv.1 hv.2]; rfl) rfl (by rw [mm_wl_at hw.1 hw.2]; rfl) rfl hin hdg (fun H1 locs1 hP1 hD1 hS1 => kk H1 locs1 ⟨?_, hK, hS1, hT⟩)
  rw [mm_wl_set (f' := up f 9 0 j.toNatClampNeg (nI i2)) (g' := GG (up f 9 0 j.toNatClampNeg (nI i2))) (Nat.le_refl _) hv.2 ?_ ?_] at hP1
  · exact hP1
  · intro r' i' h
    refine ⟨up_other f 9 0 _ _ h, ?_⟩
    funext k'
    unfold GG
    split <;> try rfl
    have h2 : up f 9 0 j.toNatClampNeg (nI i2) 9 i' k' = f 9 i' k' := by rw [up_other f 9 0 _ _ h]
    simp only [h2]
  · have key : ∀ gv : Nat → Nat × Nat, (fun k => mm_ro G (gv k)) = va_up (fun k => mm_ro G (GG f 9 0 k)) j.toNatClampNeg (some (ra G 2 i2)) → (Sum.inl (G.2.2.1 3, 24, .inr (.inr (.inr (.inr (va_up (fun k => mm_ro G (GG f 9 0 k)) j.toNatClampNeg (some (ra G 2 i2))))))) : va_E) = mm_ent G 9 (up f 9 0 j.toNatClampNeg (nI i2) 9 0) gv := by
      intro gv h
      rw [← h]
      rfl
    refine key _ ?_
    funext k
    by_cases hk : k = j.toNatClampNeg
    · subst hk
      simp [va_up, GG, up, mm_ro, nI_clamp (show i2 < 2 ^ 31 by omega)]
    · simp [va_up, GG, up, mm_ro, hk]
/-- where a method stands: the machine, its code, the tables' words -/
def mmC (y : MethodName) (cc : ByteArray) (nL : Nat) (ret : Option FieldType) (p : Program) (s : State) (m : MethodId) (args : Array Value) (meth : Method) (c : Code) : Prop :=
  p.tables.exec = Jvm.exec ∧ c.code = cc ∧ c.maxLocals = nL ∧ meth.sig.returnType = ret ∧ s.vm.findClass y.cls = some m.cls ∧ (∀ w ∈ BIG, w.before args s = true) ∧ meth.locks = false
theorem mm_ofW {l : Launch} {y : MethodName} {ws' : List Cond} {rm : Room} {Pc : Array Value → State → Prop} {Qc : Array Value → State → Outcome → State → Prop} {mc ms : Nat} {free : Addr → Prop} {maxL : Nat} {ret : Option FieldType} (hy : plainFor y = true)
    (body : ∀ p e s m args below meth c s₁, BodyLoose p l y (headSpec (Cond.code y cc maxL ret :: ws') rm) cc maxL ret e s m args below meth c s₁ → c.maxLocals = maxL → Pc args s →
      W p l e rm s m args below meth c s.heap [] 0 0 (MQ below Qc args s mc ms free) (entryFrame m args maxL)) : Met l y (Cond.code y cc maxL ret :: ws') rm Pc Qc mc ms free := by
  refine MetFree.of_bodySF (code := cc) (maxLocals := maxL) (ret := ret) hy ?_ ?_
  · intro args s m h hn
    obtain ⟨meth, c, h1, h2, h3, h4, h5, h6, -, -⟩ := Cond.code_spec hn (atoms_spec (ws := Cond.code y cc maxL ret :: ws') h _ List.mem_cons_self)
    exact ⟨meth, c, h1, h2, h3, h4, h5, h6⟩
  · intro p e s m args below meth c s₁ B hml hP _
    have hh0 : s₁.heap = s.heap := by rw [B.state]; rfl
    obtain ⟨t, a1, o, b1, b2, b3⟩ := body p e s m args below meth c s₁ B hml hP s₁ hh0 (Stand.of_body B)
    exact ⟨t, o, a1, b1, b2, ⟨b3.1, b3.2⟩⟩
theorem mm_start {y : MethodName} {ret : Option FieldType} {d : Nat} {as : List Value} {r : Option Value} {f' : F3} (hy : plainFor y = true) (hlen : (lg_sl as).length ≤ nL)
    (body : ∀ (p : Program) (e : Env) (s : State) (m : MethodId) (args : Array Value) (below : List Frame) (meth : Method) (c : Code) (ls : Array Slot), mmC y cc nL ret p s m args meth c → mm_R G mm_NT f (GG f) s s.heap [] → lv_has ls nL (lv_args 0 as) →
      W p G.1 e (mm_rm d) s m args below meth c s.heap [] 0 0 (MQ below (mm_Q G mm_NT r f' (GG f')) args s 0 0 (mm_A G)) (F0 m 0 ls [])) : mmM G y cc nL ret d as f r f' := by
  refine mm_ofW (cc := cc) (maxL := nL) (ret := ret) hy ?_
  intro p e s m args below meth c s₁ B hml hv
  obtain ⟨rfl, hP, hK, hT⟩ := hv
  have hts := atoms_spec (ws := .code y cc nL ret :: BIG) B.pre
  have hl := lv_entry as (n := nL) hlen
  rw [lg_entry_eq]
  generalize (lg_sl as ++ List.replicate (nL - (lg_sl as).length) Slot.unset).toArray = ls at hl ⊢
  exact body p e s m _ below meth c ls ⟨B.exec, B.bytes, hml, B.returns, findClass_of_methodNamed B.named, fun w hw => hts w (List.mem_cons_of_mem _ hw), B.notSynchronized⟩ ⟨hP, hK, va_S.rf, hT⟩ hl
theorem mm_iret {l : Launch} {y : MethodName} {v : Int32} (C0 : mmC y cc nL (some .int) p s m args meth c) (hR : mm_R G mm_NT f (GG f) s H locs) (hdg : decode cc pc = .ok (.ireturn, 1)) :
    W p l e R s m args below meth c H locs 0 0 (MQ below (mm_Q G mm_NT (some (.int v)) f (GG f)) args s 0 0 (mm_A G)) (F0 m pc ls [.int v]) := by
  obtain ⟨hx, hb, hml, hr, hown, hts, hlocks⟩ := C0
  exact W.iret hx hb hr (fun t ht hW => ⟨rfl, hR.B ht hW, hR.2.2.1.F ht⟩) hR.2.2.1.2.2 hdg
theorem mm_zret {l : Launch} {y : MethodName} {v : Int32} (C0 : mmC y cc nL (some .boolean) p s m args meth c) (hn : narrow .boolean (.int v) = .int v) (hR : mm_R G mm_NT f (GG f) s H locs) (hdg : decode cc pc = .ok (.ireturn, 1)) :
    W p l e R s m args below meth c H locs 0 0 (MQ below (mm_Q G mm_NT (some (.int v)) f (GG f)) args s 0 0 (mm_A G)) (F0 m pc ls [.int v]) := by
  obtain ⟨hx, hb, hml, hr, hown, hts, hlocks⟩ := C0
  exact W.zret hx hb hr hn (fun t ht hW => ⟨rfl, hR.B ht hW, hR.2.2.1.F ht⟩) hR.2.2.1.2.2 hdg
theorem mm_vret {l : Launch} {y : MethodName} (C0 : mmC y cc nL none p s m args meth c) (hR : mm_R G mm_NT f (GG f) s H locs) (hdg : decode cc pc = .ok (.return_, 1)) :
    W p l e R s m args below meth c H locs 0 0 (MQ below (mm_Q G mm_NT none f (GG f)) args s 0 0 (mm_A G)) (F0 m pc ls []) := by
  obtain ⟨hx, hb, hml, hr, hown, hts, hlocks⟩ := C0
  exact W.vret hx hb hr (fun t ht hW => ⟨rfl, hR.B ht hW, hR.2.2.1.F ht⟩) hR.2.2.1.2.2 hdg
theorem mm_call {l : Launch} {st0 : List Value} {v : Option Value} {f1 : F3} {a : Array Value} (hR : mm_R G mm_NT f (GG f) s H locs) (hr : va_Run p l e R s m args below meth c H locs cells slots 0 0 (F0 m pc ls st0) rest (mm_Q G mm_NT v f1 (GG f1) a) (mm_A G))
    (kk : ∀ (H1 : Heap) (locs1 : List Loc), mm_R G mm_NT f1 (GG f1) s H1 locs1 → W p l e R s m args below meth c H1 locs1 cells slots Q (F0 m (pc + 3) ls (v.toList ++ rest))) : W p l e R s m args below meth c H locs cells slots Q (F0 m pc ls st0) := by
  obtain ⟨hP, hK, hS, hT⟩ := hR
  intro T hTH X
  obtain ⟨v', st₀, t, T', L, h0, X', hL, e1, e2, ⟨hv, ⟨hP1, hK1, hT1⟩, hz, hk⟩, st⟩ := hr T hTH X
  cases hv
  rw [h0] at hz hk
  obtain ⟨t2, a1, b1⟩ := kk T'.heap (locs ++ L) ⟨by rw [e1]; exact hP1, hK, ⟨Nat.le_trans hS.1 (by rw [e1]; exact hz), fun q h1 h2 => by rw [e1, hk q (Nat.lt_of_lt_of_le h1 hS.1) h2]; exact hS.2.1 q h1 h2, fun q hq => by
      rcases List.mem_append.mp hq with h | h
      · exact hS.2.2 q h
      · exact hL q h⟩, hT⟩ T' rfl X'
  exact ⟨t2, st t2 a1, b1⟩
theorem mm_good {hd : List Cond} (h : ∀ w ∈ hd, w ∈ BIG) : GoodIn BIG hd := fun w hw => ⟨h w hw, good_of_word (List.mem_filter.mp (h w hw)).2⟩
/-- a callee's own words -/
def mmW (y : MethodName) (cc : ByteArray) (nL : Nat) (ret : Option FieldType) : Prop := Cond.instanceMethod y ∈ BIG ∧ Cond.selects y.cls y y ∈ BIG ∧ Cond.initialized y.cls ∈ BIG ∧ Cond.code y cc nL ret ∈ BIG
def mmWs (y : MethodName) (cc : ByteArray) (nL : Nat) (ret : Option FieldType) : Prop := Cond.static y ∈ BIG ∧ Cond.initialized y.cls ∈ BIG ∧ Cond.code y cc nL ret ∈ BIG
theorem mm_callV {l : Launch} {y y0 : MethodName} {ret ret0 : Option FieldType} {cc0 : ByteArray} {nL0 d d0 : Nat} {v : Option Value} {f1 : F3} (As : List Value) {st0 : List Value} (C0 : mmC y cc nL ret p s m args meth c) (hl : l = G.1) (hR : mm_R G mm_NT f (GG f) s H locs) (r i : Nat) (hM : mmM G y0 cc0 nL0 ret0 d0 (.ref (ra G r i) :: As) f v f1) (hw : mmW y0 cc0 nL0 ret0) (hlk : Cond.methodLink y.cls index y0 ∈ BIG)
    (hd : y0.cls ≠ "java/lang/invoke/MethodHandle" ∧ y0.cls ≠ "java/lang/invoke/VarHandle" ∧ (parseMethodDescriptor y0.desc).map (fun d => d.parameters.length) = some As.length) (hRm : d0 + 1 ≤ d ∧ 8 + (nL0 + 11) + 36 * d0 ≤ 36 * d)
    (hv : AD r i < mm_NT ∧ mm_loc (AD r i) = (r, i)) {ci : Nat} {fs : List Value} {q : vw_C} (he : mm_ent G r (f r i) (GG f r i) = .inr (ci, fs)) (hc : vwCl[ci]? = some q) (hq : q.1 = y0.cls) (hls : ls.size = nL) (hst : st0 = As.reverse ++ .ref (ra G r i) :: rest) (hroom : (rest.map fun v => v.category).sum ≤ 8) (hdg : decode cc pc = .ok (.invokevirtual index, 3))
    (kk : ∀ (H1 : Heap) (locs1 : List Loc), mm_R G mm_NT f1 (GG f1) s H1 locs1 → W p l e (mm_rm d) s m args below meth c H1 locs1 0 0 Q (F0 m (pc + 3) ls (v.toList ++ rest))) : W p l e (mm_rm d) s m args below meth c H locs 0 0 Q (F0 m pc ls st0) := by
  obtain ⟨hx, hb, hml, hr, hown, hts, hlocks⟩ := C0
  subst hl
  have hgood : GoodIn BIG (wsV y.cls index y0.cls y0 (.code y0 cc0 nL0 ret0 :: BIG)) := mm_good (fun w hw' => by
    unfold wsV at hw'
    rcases List.mem_append.mp hw' with h | h
    · simp only [List.mem_cons, List.not_mem_nil, or_false] at h
      rcases h with rfl | rfl | rfl | rfl
      · exact hlk
      · exact hw.1
      · exact hw.2.1
      · exact hw.2.2.1
    · rcases List.mem_cons.mp h with rfl | h
      · exact hw.2.2.2
      · exact h)
  have hrecv := va_recv hR.2.1 hR.1 (ci := ci) (q := q) (fs := fs) (q0 := AD r i) (a := ra G r i) hc (by rw [mm_wl_at hv.1 hv.2, he])
  rw [hq] at hrecv
  exact mm_call hR (va_runV (As := As) (rest := rest) (C := y0.cls) (own := y.cls) ⟨hx, hb, hml, hown, hts⟩ hM (cwV As.length hts hgood rfl rfl rfl ⟨rfl, hd.1, hd.2.1, hd.2.2⟩ ⟨hRm.1, hRm.2⟩) ⟨mm_blind, hrecv, fun U hU hW => ⟨rfl, hR.B hU hW⟩⟩ rfl rfl hls hst (lv_room hroom) hdg ⟨Nat.le_refl _, Nat.le_refl _⟩) kk
theorem mm_callS {l : Launch} {y y0 : MethodName} {ret ret0 : Option FieldType} {cc0 : ByteArray} {nL0 d d0 : Nat} {v : Option Value} {f1 : F3} (As : List Value) {st0 : List Value} (C0 : mmC y cc nL ret p s m args meth c) (hl : l = G.1) (hR : mm_R G mm_NT f (GG f) s H locs) (hM : mmM G y0 cc0 nL0 ret0 d0 As f v f1) (hw : mmWs y0 cc0 nL0 ret0) (hlk : Cond.methodLink y.cls index y0 ∈ BIG)
    (hd : y0.cls ≠ "java/lang/invoke/MethodHandle" ∧ y0.cls ≠ "java/lang/invoke/VarHandle" ∧ (parseMethodDescriptor y0.desc).map (fun d => d.parameters.length) = some As.length) (hRm : d0 + 1 ≤ d ∧ 8 + (nL0 + 11) + 36 * d0 ≤ 36 * d)
    (hls : ls.size = nL) (hst : st0 = As.reverse ++ rest) (hroom : (rest.map fun v => v.category).sum ≤ 8) (hdg : decode cc pc = .ok (.invokestatic index, 3))
    (kk : ∀ (H1 : Heap) (locs1 : List Loc), mm_R G mm_NT f1 (GG f1) s H1 locs1 → W p l e (mm_rm d) s m args below meth c H1 locs1 0 0 Q (F0 m (pc + 3) ls (v.toList ++ rest))) : W p l e (mm_rm d) s m args below meth c H locs 0 0 Q (F0 m pc ls st0) := by
  obtain ⟨hx, hb, hml, hr, hown, hts, hlocks⟩ := C0
  subst hl
  have hgood : GoodIn BIG (.code y0 cc0 nL0 ret0 :: BIG) := mm_good (fun w hw' => by
    rcases List.mem_cons.mp hw' with rfl | h
    · exact hw.2.2
    · exact h)
  exact mm_call hR (va_runS (As := As) (rest := rest) (own := y.cls) ⟨hx, hb, hml, hown, hts⟩ hM ⟨callB_of As.length hts hgood rfl rfl rfl (hts _ hw.2.1) (hts _ hlk) ⟨hd.1, hd.2.1, hd.2.2⟩ ⟨hRm.1, hRm.2⟩, hts _ hw.1⟩ ⟨mm_blind, fun U hU hW => ⟨rfl, hR.B hU hW⟩⟩ rfl rfl hls hst (lv_room hroom) hdg ⟨Nat.le_refl _, Nat.le_refl _⟩) kk
end MMR
