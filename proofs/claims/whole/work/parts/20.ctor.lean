/-! the making: cells come one by one -/
def upg (g : G3) (r i k : Nat) (q : Nat × Nat) : G3 := fun r' i' k' => if r' = r ∧ i' = i ∧ k' = k then q else g r' i' k'
def updG (gv : Nat → Nat × Nat) (k : Nat) (q : Nat × Nat) : Nat → Nat × Nat := fun j => if j = k then q else gv j
theorem upg_self (g : G3) (r i k : Nat) (q : Nat × Nat) : upg g r i k q r i = updG (g r i) k q := by
  funext j
  simp [upg, updG]
theorem upg_other (g : G3) (r i k : Nat) (q : Nat × Nat) {r' i' : Nat} (h : ¬ (r' = r ∧ i' = i)) : upg g r i k q r' i' = g r' i' := by
  funext j
  unfold upg
  rw [if_neg (fun q => h ⟨q.1, q.2.1⟩)]
def zf (f : F3) (r i : Nat) : F3 := fun r' i' k' => if r' = r ∧ i' = i then 0 else f r' i' k'
def zg (g : G3) (r i : Nat) : G3 := fun r' i' k' => if r' = r ∧ i' = i then (99, 0) else g r' i' k'
theorem zf_self (f : F3) (r i : Nat) : zf f r i r i = fun _ => 0 := by
  funext j
  simp [zf]
theorem zg_self (g : G3) (r i : Nat) : zg g r i r i = fun _ => (99, 0) := by
  funext j
  simp [zg]
theorem zf_other (f : F3) (r i : Nat) {r' i' : Nat} (h : ¬ (r' = r ∧ i' = i)) : zf f r i r' i' = f r' i' := by
  funext j
  simp [zf, h]
theorem zg_other (g : G3) (r i : Nat) {r' i' : Nat} (h : ¬ (r' = r ∧ i' = i)) : zg g r i r' i' = g r' i' := by
  funext j
  simp [zg, h]
def mm_wid (r : Nat) : Nat := match r with
  | 0 => 16 | 1 => 10 | 2 => 7 | 3 => 9 | 4 => 2 | 5 => 2 | 6 => 1 | 20 => 34 | r => mm_len r
def SL : Nat → Nat
  | 0 => 0
  | n + 1 => SL n + mm_wid (mm_loc n).1
theorem SL_mono {a b : Nat} (h : a ≤ b) : SL a ≤ SL b := by
  induction b with
  | zero => rw [show a = 0 by omega]; exact Nat.le_refl _
  | succ b ih =>
    by_cases e : a = b + 1
    · rw [e]; exact Nat.le_refl _
    · have := ih (by omega)
      show _ ≤ SL b + _
      omega
def okA (r i n : Nat) : Bool := decide (AD r i < n) && decide (mm_loc (AD r i) = (r, i)) && decide (n ≤ 113)
theorem okA_v {r i n : Nat} (h : okA r i n = true) : (AD r i < n ∧ mm_loc (AD r i) = (r, i)) ∧ n ≤ mm_NT := by
  simpa [okA] using h
/-- words that are no good words: arrays over the class's own classes, private constructors of nest mates -/
def mm_X (U : State) : Prop := (va_AO "IceRoad$Cell" U ∧ va_AO "IceRoad$Load" U ∧ va_AO "IceRoad$Rule" U) ∧ va_Nw (.methodLinkNest RX6 39 yX3_init "IceRoad") U ∧ va_Nw (.methodLinkNest RX6 59 yX0_init "IceRoad") U ∧ va_Nw (.methodLinkNest RX6 81 yX1_init "IceRoad") U ∧ va_Nw (.methodLinkNest RX6 82 yX2_init "IceRoad") U ∧ va_Nw (.methodLinkNest RX3 11 yX4_init "IceRoad") U
theorem mm_X.warm {s U : State} (hW : s.WarmedH U.vm) (h : mm_X s) : mm_X U := ⟨⟨va_AO.moved hW.alike h.1.1, va_AO.moved hW.alike h.1.2.1, va_AO.moved hW.alike h.1.2.2⟩, va_Nw.warmM hW h.2.1, va_Nw.warmM hW h.2.2.1, va_Nw.warmM hW h.2.2.2.1, va_Nw.warmM hW h.2.2.2.2.1, va_Nw.warmM hW h.2.2.2.2.2⟩
theorem mm_X.same {s U : State} (hv : s.vm = U.vm) (ha : s.vm.Alike U.vm) (h : mm_X s) : mm_X U := ⟨⟨va_AO.moved ha h.1.1, va_AO.moved ha h.1.2.1, va_AO.moved ha h.1.2.2⟩, va_Nw.same rfl hv h.2.1, va_Nw.same rfl hv h.2.2.1, va_Nw.same rfl hv h.2.2.2.1, va_Nw.same rfl hv h.2.2.2.2.1, va_Nw.same rfl hv h.2.2.2.2.2⟩
def mm_N (G : mmG) (n : Nat) (f : F3) (g : G3) (s : State) (H : Heap) (locs : List Loc) : Prop := mm_R G n f g s H locs ∧ H.size = mm_n0 G + n ∧ mm_X s
def mm_PA (G : mmG) (n : Nat) (as : List Value) (f : F3) (g : G3) : Array Value → State → Prop := va_Pc as (fun U => mm_B G n f g U ∧ U.heap.size = mm_n0 G + n ∧ mm_X U)
def mm_QA (G : mmG) (n : Nat) (f : F3) (g : G3) : Array Value → State → Outcome → State → Prop := fun _ st o t => o = .returned none ∧ (mm_B G n f g t ∧ t.heap.size = mm_n0 G + n) ∧ va_F (mm_A G) st t
def mm_rA (d mc n : Nat) : Room := { frames := d, cells := mc, slots := SL (n + mc) - SL n, locals := 36 * d }
def mmMA (G : mmG) (y : MethodName) (cc : ByteArray) (nL d : Nat) (as : List Value) (n : Nat) (f : F3) (g : G3) (mc n' : Nat) (f' : F3) (g' : G3) : Prop :=
  Met G.1 y (.code y cc nL none :: BIG) (mm_rA d mc n) (mm_PA G n as f g) (mm_QA G n' f' g') mc (SL (n + mc) - SL n) (mm_A G)
theorem mm_blindA {G : mmG} {n : Nat} {as : List Value} {f : F3} {g : G3} : FrameBlind (mm_PA G n as f g) := by
  intro a U gg mk h
  obtain ⟨h0, hB, hz, hX⟩ := h
  exact ⟨h0, (mm_blind (n := n) (as := as) (f := f) (g := g) a U gg mk ⟨h0, hB⟩).2, hz, hX.same rfl (Vm.Alike.refl U.vm)⟩
section MMA
variable {p : Program} {e : Env} {R : Room} {s : State} {m : MethodId} {args : Array Value} {below : List Frame} {meth : Method} {c : Code} {H : Heap} {locs : List Loc} {cells slots : Nat} {Q : State → Prop}
variable {cc : ByteArray} {pc nL : Nat} {ls : Array Slot} {rest : List Value} {G : mmG} {n : Nat} {f f' : F3} {g g' : G3} {own : String} {index : Nat}
theorem mm_wl_push {G : mmG} {n : Nat} {f f' : F3} {g g' : G3} {r i : Nat} (hn : n < mm_NT) (hl : mm_loc n = (r, i)) (ho : ∀ r' i', ¬ (r' = r ∧ i' = i) → f' r' i' = f r' i' ∧ g' r' i' = g r' i') :
    mm_wl G (n + 1) f' g' = mm_wl G n f g ++ [(mm_n0 G + n, mm_ent G r (f' r i) (g' r i))] := by
  unfold mm_wl
  rw [List.range_succ, List.map_append]
  congr 1
  · apply List.map_congr_left
    intro j hj
    have hj := List.mem_range.mp hj
    have hne : ¬ ((mm_loc j).1 = r ∧ (mm_loc j).2 = i) := by
      intro hq
      have e1 := mm_inv j (by omega)
      have e2 : AD r i = n := by
        have := mm_inv n hn
        rw [hl] at this
        exact this
      rw [hq.1, hq.2] at e1
      omega
    obtain ⟨o1, o2⟩ := ho _ _ hne
    rw [o1, o2]
  · simp [hl]
theorem mm_AD_of {n r i : Nat} (hn : n < mm_NT) (hl : mm_loc n = (r, i)) : AD r i = n := by
  have e2 := mm_inv n hn
  rw [hl] at e2
  exact e2
theorem W_cnt {l : Launch} {g : JFrame} {c1 s1 : Nat} (h1 : cells = c1) (h2 : slots = s1) (k : W p l e R s m args below meth c H locs c1 s1 Q g) : W p l e R s m args below meth c H locs cells slots Q g := by
  subst h1; subst h2; exact k
/-- putfield in a constructor -/
theorem mm_putA {l : Launch} (hx : p.tables.exec = Jvm.exec) (hb : c.code = cc) (hts : ∀ w ∈ BIG, w.before args s = true) (hown : s.vm.findClass own = some m.cls) (hN : mm_N G n f g s H locs) (r i k : Nat) (hA : okA r i n = true)
    {ci N : Nat} {C : String} {T : u_T} {fs : List Value} {v : Value} (he : mm_ent G r (f r i) (g r i) = .inr (ci, fs)) (hc : vwCl[ci]? = some (C, T, N)) (hin : ∀ w ∈ u_ws C T N, w ∈ BIG) (ty0 : Nat → FieldType) (hty : ∀ k, k < N → parseFieldDescriptor (T k).2.2.1 = some (ty0 k)) (hnm : ∀ a, a < N → ∀ b, b < N → a ≠ b → (T a).2.1 ≠ (T b).2.1) (hk : k < N) (hlink : Cond.fieldLink own index (T k).1 (T k).2.1 (T k).2.2.1 ∈ BIG) (hin2 : meth.name = "<init>" ∨ (T k).2.2.2 = false) (hdecl : (T k).1 = own ∨ (T k).2.2.2 = false)
    (hn : narrow (ty0 k) v = v) (hfit : fits (ty0 k) v = true) (hl : k < fs.length) (ho : ∀ r' i', ¬ (r' = r ∧ i' = i) → f' r' i' = f r' i' ∧ g' r' i' = g r' i') (hset : (Sum.inr (ci, fs.set k v) : va_E) = mm_ent G r (f' r i) (g' r i)) (hdg : decode cc pc = .ok (.putfield index, 3))
    (kk : ∀ (H1 : Heap) (locs1 : List Loc), mm_N G n f' g' s H1 locs1 → W p l e R s m args below meth c H1 locs1 cells slots Q (F0 m (pc + 3) ls rest)) : W p l e R s m args below meth c H locs cells slots Q (F0 m pc ls (v :: .ref (ra G r i) :: rest)) := by
  obtain ⟨⟨hP, hK, hS0, hT⟩, hz, hX⟩ := hN
  obtain ⟨hv, hnn⟩ := okA_v hA
  have hat : (mm_wl G n f g)[AD r i]? = some (ra G r i, .inr (ci, fs)) := by rw [mm_wl_at hv.1 hv.2, he]
  have hD := mm_wl_D G n f g
  have hap := va_apart (own := own) hts hin ty0 hty hnm hK hc
  obtain ⟨rr, h1, cell, q1, q2, q3, q4⟩ := hP (AD r i) _ hat
  have hr : rr = (C, T, N) := Option.some.inj (h1.symm.trans hc)
  subst hr
  obtain ⟨hSl, hfc, kC, hkC, hkind⟩ := hK.1 ci _ hc
  obtain ⟨cf, kf, fi, fd, hi, hsl⟩ := hSl k hk
  have hst := (u_facts hfc hkC (u_lays hts hin hk) hi).1
  have fin : ∀ H' : Heap, H'[ra G r i]? = some (cell.setSlot fd.slot v) → H'.size = H.size → (∀ q, q ≠ ra G r i → H'[q]? = H[q]?) → W p l e R s m args below meth c H' (locs ++ [⟨ra G r i, fd.slot⟩]) cells slots Q (F0 m (pc + 3) ls rest) := by
    intro H' e1 e2 e3
    rw [hsl] at e1 ⊢
    have hP1 := hP.set hD hat (e := .inr (ci, fs.set k v)) ⟨_, hc, t_OB.to (V := updV (vp_V fs) k v) ⟨_, e1, q2, q3, t_set q4 hap hk v⟩ (fun j _ => vp_updV_set hl v j)⟩ e3
    rw [mm_wl_set (f' := f') (g' := g') hnn hv.2 ho hset] at hP1
    exact kk H' _ ⟨⟨hP1, hK, hS0.put e2 e3 (Nat.le_add_right _ _), hT⟩, by rw [e2]; exact hz, hX⟩
  have hlay := hts _ (hin _ (u_in_lay hk))
  unfold u_lay at hlay
  by_cases hfl : (T k).2.2.2 = true
  · rw [if_pos hfl] at hlay
    have hin3 : meth.name = "<init>" := hin2.resolve_right (by rw [hfl]; decide)
    have hdec : (T k).1 = own := hdecl.resolve_right (by rw [hfl]; decide)
    have hcf : m.cls = cf := by
      obtain ⟨_, _, c', _, _, _, -, -, hf', -, -, -, hown2, -⟩ := Cond.laysFinal_spec hlay
      have e1 : c' = cf := by have := hi.symm.trans hf'; simp at this; exact this.1.symm
      rw [hdec] at hown2
      rw [← e1]; exact Option.some.inj (hown.symm.trans hown2)
    have h6 := u_fits hfc hkC hkind (Or.inr hlay) hi (hty k hk) hn hfit
    exact W.putFinK hx hb hown (hts _ hlink) hi hst hcf hin3 (by rw [q2]; exact h6) q1 q3 (by rw [hsl]; exact k2_hasslot (q4 k hk)) rfl rfl hdg fin
  · rw [if_neg hfl] at hlay
    have h6 := u_store hfc hkC hkind hlay hi (hty k hk) hn hfit
    exact W.putK hx hb (f := fd) ⟨hown, hts _ hlink, ⟨_, _, _, hi⟩, hst⟩ (by rw [q2]; exact h6) q1 q3 (by rw [hsl]; exact k2_hasslot (q4 k hk)) rfl rfl hdg fin
theorem mm_istA {l : Launch} (hx : p.tables.exec = Jvm.exec) (hb : c.code = cc) (hN : mm_N G n f g s H locs) (r i : Nat) (hA : okA r i n = true) {L : Nat} (he : ∀ z : Nat → Int32, mm_ent G r z (g r i) = .inl (G.2.2.1 0, L, .inl z)) {j x : Int32} (hin : vp_in j L) (hdg : decode cc pc = .ok (.iastore, 1))
    (kk : ∀ (H1 : Heap) (locs1 : List Loc), mm_N G n (up f r i j.toNatClampNeg x) g s H1 locs1 → W p l e R s m args below meth c H1 locs1 cells slots Q (F0 m (pc + 1) ls rest)) : W p l e R s m args below meth c H locs cells slots Q (F0 m pc ls (.int x :: .int j :: .ref (ra G r i) :: rest)) := by
  obtain ⟨⟨hP, hK, hS0, hT⟩, hz, hX⟩ := hN
  obtain ⟨hv, hnn⟩ := okA_v hA
  have hat : (mm_wl G n f g)[AD r i]? = some (ra G r i, .inl (G.2.2.1 0, L, .inl (f r i))) := by rw [mm_wl_at hv.1 hv.2, he]
  have hD := mm_wl_D G n f g
  refine W.iast hx hb (hP (AD r i) _ hat) ((hK.2 0 _ rfl).1 L (fun j => .int (f r i j))) (fun q => by cases q) (by show ¬ (j < 0 ∨ (arrV _ _ _).slots.size ≤ _); rw [arrV_size]; exact hin) rfl rfl hdg fun H1 e1 z1 oq => ?_
  have hP1 := hP.set hD hat (e := .inl (G.2.2.1 0, L, .inl (upd (f r i) j.toNatClampNeg x))) (by
    show H1[ra G r i]? = some (vp_cell _ _)
    rw [e1]
    rw [vp_cell_i, vp_cell_i, arrV_store]
    congr 2
    funext q
    by_cases hq : q = j.toNatClampNeg
    · subst hq
      simp [updV, upd]
    · simp [updV, upd, hq]) oq
  rw [mm_wl_set (f' := up f r i j.toNatClampNeg x) (g' := g) hnn hv.2 (fun r' i' h => ⟨up_other f r i _ x h, rfl⟩) (by rw [up_self]; exact (he _).symm)] at hP1
  exact kk H1 _ ⟨⟨hP1, hK, hS0.put z1 oq (Nat.le_add_right _ _), hT⟩, by rw [z1]; exact hz, hX⟩
/-- aastore of a cell's reference -/
theorem mm_astA {l : Launch} (hx : p.tables.exec = Jvm.exec) (hb : c.code = cc) (hN : mm_N G n f g s H locs) (r i t : Nat) (hA : okA r i n = true) {L : Nat} (he : ∀ z : Nat → Nat × Nat, mm_ent G r (f r i) z = .inl (G.2.2.1 t, L, .inr (.inr (.inr (.inr (fun k => mm_ro G (z k))))))) (r2 i2 : Nat) (hA2 : okA r2 i2 n = true) (h99 : r2 ≠ 99) {ci : Nat} {q : vw_C} {vs : List Value} (he2 : mm_ent G r2 (f r2 i2) (g r2 i2) = .inr (ci, vs)) (hc : vwCl[ci]? = some q) (ht : (mm_t G)[t]? = some (G.2.2.1 t, .object q.1)) {j : Int32} (hin : vp_in j L) (hdg : decode cc pc = .ok (.aastore, 1))
    (kk : ∀ (H1 : Heap) (locs1 : List Loc), mm_N G n f (upg g r i j.toNatClampNeg (r2, i2)) s H1 locs1 → W p l e R s m args below meth c H1 locs1 cells slots Q (F0 m (pc + 1) ls rest)) : W p l e R s m args below meth c H locs cells slots Q (F0 m pc ls (.ref (ra G r2 i2) :: .int j :: .ref (ra G r i) :: rest)) := by
  obtain ⟨⟨hP, hK, hS0, hT⟩, hz, hX⟩ := hN
  obtain ⟨hv, hnn⟩ := okA_v hA
  obtain ⟨hv2, -⟩ := okA_v hA2
  have hat : (mm_wl G n f g)[AD r i]? = some (ra G r i, .inl (G.2.2.1 t, L, .inr (.inr (.inr (.inr (fun k => mm_ro G (g r i k))))))) := by rw [mm_wl_at hv.1 hv.2, he]
  have hat2 : (mm_wl G n f g)[AD r2 i2]? = some (ra G r2 i2, .inr (ci, vs)) := by rw [mm_wl_at hv2.1 hv2.2, he2]
  have hD := mm_wl_D G n f g
  have hlt : j.toNatClampNeg < L := Nat.not_le.mp fun q => hin (Or.inr q)
  have h0 : ¬ j < 0 := fun q => hin (Or.inl q)
  obtain ⟨r', hr', cellV, g1, g2, g3, -⟩ := hP (AD r2 i2) _ hat2
  have hcls := (hK.1 ci q hc).2
  obtain ⟨kA, comp, k1, k2, k3, -⟩ := (hK.2 t _ ht).2
  have hcomp : comp = G.2.1.1 ci := Option.some.inj (k3.symm.trans hcls.1)
  subst hcomp
  obtain ⟨kC, hkC, -⟩ := hcls.2
  refine W.aast hx hb (hP (AD r i) _ hat) (fun q h => by cases h) (fun h => by cases h) k1 k2 rfl hkC ⟨h0, by show _ < (arrV _ _ _).slots.size; rw [arrV_size]; exact hlt⟩ g1 (fun q h => by rw [g3] at h; cases h) (by rw [g2]; exact hkC) (by rw [g2]; exact va_assign hcls) rfl rfl hdg fun H1 e1 z1 oq => ?_
  have hP1 := hP.set hD hat (e := .inl (G.2.2.1 t, L, .inr (.inr (.inr (.inr (fun k => mm_ro G (updG (g r i) j.toNatClampNeg (r2, i2) k))))))) (by
    show H1[ra G r i]? = some (vp_cell _ _)
    rw [e1]
    rw [vp_cell_q, vp_cell_q, arrV_store]
    congr 2
    funext q
    by_cases hq : q = j.toNatClampNeg
    · subst hq
      simp [updV, updG, va_rf, mm_ro, h99]
    · simp [updV, updG, hq]) oq
  rw [mm_wl_set (f' := f) (g' := upg g r i j.toNatClampNeg (r2, i2)) hnn hv.2 (fun r' i' h => ⟨rfl, upg_other g r i _ _ h⟩) (by rw [upg_self]; exact (he _).symm)] at hP1
  exact kk H1 _ ⟨⟨hP1, hK, hS0.put z1 oq (Nat.le_add_right _ _), hT⟩, by rw [z1]; exact hz, hX⟩
/-- what is said of the heap behind a new cell -/
theorem mm_grow {r i : Nat} {H1 : Heap} (hN : mm_N G n f g s H locs) (hn : n < mm_NT) (hl : mm_loc n = (r, i)) (hs : H1.size = H.size + 1) (ho : ∀ q, q < H.size → H1[q]? = H[q]?) (hat : va_at G.2.1 vwCl (mm_n0 G + n, mm_ent G r (fun _ => 0) (fun _ => (99, 0))) H1) : mm_N G (n + 1) (zf f r i) (zg g r i) s H1 locs := by
  obtain ⟨⟨hP, hK, hS0, hT⟩, hz, hX⟩ := hN
  refine ⟨⟨?_, hK, ⟨Nat.le_trans hS0.1 (by omega), fun x h1 h2 => (ho x (Nat.lt_of_lt_of_le h1 hS0.1)).trans (hS0.2.1 x h1 h2), hS0.2.2⟩, hT⟩, by omega, hX⟩
  rw [mm_wl_push hn hl (fun r' i' h => ⟨zf_other f r i h, zg_other g r i h⟩), zf_self, zg_self]
  refine (hP.kept (fun k x hx => ho x.1 (hP k x hx).lt)).app (fun k x hx => ?_)
  have hk : k < 1 := (List.getElem?_eq_some_iff.mp hx).1
  rw [show k = 0 by omega] at hx
  cases hx
  exact hat
theorem mm_newA {l : Launch} {d mc ns : Nat} (hx : p.tables.exec = Jvm.exec) (hb : c.code = cc) (hts : ∀ w ∈ BIG, w.before args s = true) (hown : s.vm.findClass own = some m.cls) (hN : mm_N G n f g s H locs) (r i : Nat) (hns : ns ≤ n) (hg : n < ns + mc ∧ n < mm_NT ∧ mm_loc n = (r, i))
    {ci N : Nat} {C : String} {T : u_T} {fs : List Value} (he : mm_ent G r (fun _ => 0) (fun _ => (99, 0)) = .inr (ci, fs)) (hc : vwCl[ci]? = some (C, T, N)) (hin : ∀ w ∈ u_ws C T N, w ∈ BIG) (ty0 : Nat → FieldType) (hty : ∀ k, k < N → parseFieldDescriptor (T k).2.2.1 = some (ty0 k)) (hcl : Cond.classLink own index C ∈ BIG) (hins : Cond.instantiable C N ∈ BIG) (hini : Cond.initialized C ∈ BIG) (hw : mm_wid r = N) (hfs : ∀ j, j < N → defaultValue (ty0 j) = vp_V fs j) (hdg : decode cc pc = .ok (.new index, 3))
    (kk : ∀ (H1 : Heap), mm_N G (n + 1) (zf f r i) (zg g r i) s H1 locs → W p l e (mm_rA d mc ns) s m args below meth c H1 locs (n + 1 - ns) (SL (n + 1) - SL ns) Q (F0 m (pc + 3) ls (.ref (ra G r i) :: rest))) : W p l e (mm_rA d mc ns) s m args below meth c H locs (n - ns) (SL n - SL ns) Q (F0 m pc ls rest) := by
  obtain ⟨h1, h2, h3⟩ := hg
  have hKn := hN.1.2.1.1 ci _ hc
  have m1 := SL_mono (a := ns) (b := n) hns
  have m2 := SL_mono (a := n + 1) (b := ns + mc) (by omega)
  have m3 : SL (n + 1) = SL n + N := by
    show SL n + mm_wid (mm_loc n).1 = _
    rw [h3, hw]
  refine W.newcK hx hb hown (hts _ hcl) (hts _ hins) (hts _ hini) rfl hdg (by show _ ≤ mc; omega) (by show _ ≤ SL (ns + mc) - SL ns; omega) hKn.2.1 rfl fun H1 kC hkC e1 z1 o1 => ?_
  refine W_cnt (c1 := n + 1 - ns) (s1 := SL (n + 1) - SL ns) (by omega) (by omega) ?_
  have hsz := hN.2.1
  have hAD := mm_AD_of h2 h3
  have := kk H1 (mm_grow hN h2 h3 z1 o1 (by
    show va_at _ _ (mm_n0 G + n, mm_ent G r _ _) _
    rw [he, ← hsz]
    exact ⟨_, hc, (u_born ty0 hts hin hKn hkC e1 hty).to hfs⟩))
  rw [show ra G r i = H.size by unfold ra; rw [hAD, hsz]] at this
  exact this
theorem mm_nwaA {l : Launch} {d mc ns : Nat} {atype : ArrayType} (t : Nat) {ty : FieldType} (hx : p.tables.exec = Jvm.exec) (hb : c.code = cc) (hts : ∀ w ∈ BIG, w.before args s = true) (hN : mm_N G n f g s H locs) (r i : Nat) (hns : ns ≤ n) (hg : n < ns + mc ∧ n < mm_NT ∧ mm_loc n = (r, i))
    {L : Int32} {LN : Nat} (hty : newarray.typeOf atype = ty) (ht : (mm_t G)[t]? = some (G.2.2.1 t, ty)) (hnref : ∀ cA : ClassId, va_RA s cA ty = (s.vm.findClass ("[" ++ ty.toString) = some cA)) (hd : defaultValue ty = .int 0) (he : mm_ent G r (fun _ => 0) (fun _ => (99, 0)) = .inl (G.2.2.1 t, LN, .inl (fun _ => 0))) (hac : Cond.arrayClass ty ∈ BIG) (hw : mm_wid r = LN) (hL : ¬ L < 0) (hLN : L.toNatClampNeg = LN) (hby : LN * componentBytes ty ≤ 536870912) (hdg : decode cc pc = .ok (.newarray atype, 2))
    (kk : ∀ (H1 : Heap), mm_N G (n + 1) (zf f r i) (zg g r i) s H1 locs → W p l e (mm_rA d mc ns) s m args below meth c H1 locs (n + 1 - ns) (SL (n + 1) - SL ns) Q (F0 m (pc + 2) ls (.ref (ra G r i) :: rest))) : W p l e (mm_rA d mc ns) s m args below meth c H locs (n - ns) (SL n - SL ns) Q (F0 m pc ls (.int L :: rest)) := by
  subst hty
  obtain ⟨h1, h2, h3⟩ := hg
  have m1 := SL_mono (a := ns) (b := n) hns
  have m2 := SL_mono (a := n + 1) (b := ns + mc) (by omega)
  have m3 : SL (n + 1) = SL n + LN := by
    show SL n + mm_wid (mm_loc n).1 = _
    rw [h3, hw]
  have hRA := (hN.1.2.1.2 t _ ht).2
  rw [hnref] at hRA
  refine va_newaK hx hb (hts _ hac) rfl hdg rfl hL hLN hby (by show _ ≤ mc; omega) (by show _ ≤ SL (ns + mc) - SL ns; omega) rfl fun H1 cA e1 z1 o1 hAr hNm => ?_
  have hcA : cA = G.2.2.1 t := Option.some.inj (hNm.symm.trans hRA)
  subst hcA
  refine W_cnt (c1 := n + 1 - ns) (s1 := SL (n + 1) - SL ns) (by omega) (by omega) ?_
  have hsz := hN.2.1
  have hAD := mm_AD_of h2 h3
  have := kk H1 (mm_grow hN h2 h3 z1 o1 (by
    show va_at _ _ (mm_n0 G + n, mm_ent G r _ _) _
    rw [he, ← hsz]
    show H1[H.size]? = some (vp_cell _ _)
    rw [e1, hd]
    rfl))
  rw [show ra G r i = H.size by unfold ra; rw [hAD, hsz]] at this
  exact this
theorem mm_nwqA {l : Launch} {d mc ns : Nat} (t : Nat) {C : String} (hx : p.tables.exec = Jvm.exec) (hb : c.code = cc) (hts : ∀ w ∈ BIG, w.before args s = true) (hown : s.vm.findClass own = some m.cls) (hN : mm_N G n f g s H locs) (r i : Nat) (hns : ns ≤ n) (hg : n < ns + mc ∧ n < mm_NT ∧ mm_loc n = (r, i))
    {L : Int32} {LN : Nat} (ht : (mm_t G)[t]? = some (G.2.2.1 t, .object C)) (he : mm_ent G r (fun _ => 0) (fun _ => (99, 0)) = .inl (G.2.2.1 t, LN, .inr (.inr (.inr (.inr (fun _ => none)))))) (hover : va_AO C s) (hcl : Cond.classLink own index C ∈ BIG) (hw : mm_wid r = LN) (hL : ¬ L < 0) (hLN : L.toNatClampNeg = LN) (hby : LN * 4 ≤ 536870912) (hdg : decode cc pc = .ok (.anewarray index, 3))
    (kk : ∀ (H1 : Heap), mm_N G (n + 1) (zf f r i) (zg g r i) s H1 locs → W p l e (mm_rA d mc ns) s m args below meth c H1 locs (n + 1 - ns) (SL (n + 1) - SL ns) Q (F0 m (pc + 3) ls (.ref (ra G r i) :: rest))) : W p l e (mm_rA d mc ns) s m args below meth c H locs (n - ns) (SL n - SL ns) Q (F0 m pc ls (.int L :: rest)) := by
  obtain ⟨h1, h2, h3⟩ := hg
  have m1 := SL_mono (a := ns) (b := n) hns
  have m2 := SL_mono (a := n + 1) (b := ns + mc) (by omega)
  have m3 : SL (n + 1) = SL n + LN := by
    show SL n + mm_wid (mm_loc n).1 = _
    rw [h3, hw]
  obtain ⟨kA0, comp0, -, -, -, hRA⟩ := (hN.1.2.1.2 t _ ht).2
  subst hLN
  refine W.anew hx hb hown (hts _ hcl) (va_AO.use hover) rfl hdg rfl hL hby (by show _ ≤ mc; omega) (by show _ ≤ SL (ns + mc) - SL ns; omega) fun cA kA comp f1 f2 f3 f4 => ?_
  have hcA : cA = G.2.2.1 t := Option.some.inj (f1.symm.trans hRA)
  subst hcA
  generalize hH1 : H.push ({ cls := G.2.2.1 t, slots := Array.replicate L.toNatClampNeg .null, vm := .none } : Cell) = H1
  have z1 : H1.size = H.size + 1 := by rw [← hH1, Array.size_push]
  have e1 : H1[H.size]? = some (arrV (G.2.2.1 t) L.toNatClampNeg (fun _ => .null)) := by rw [← hH1, Array.getElem?_push_size, ← arrV_new]
  have o1 : ∀ q, q < H.size → H1[q]? = H[q]? := by
    intro q hq
    rw [← hH1, Array.getElem?_push, if_neg (Nat.ne_of_lt hq)]
  refine W_cnt (c1 := n + 1 - ns) (s1 := SL (n + 1) - SL ns) (by omega) (by omega) ?_
  have hsz := hN.2.1
  have hAD := mm_AD_of h2 h3
  have := kk H1 (mm_grow hN h2 h3 z1 o1 (by
    show va_at _ _ (mm_n0 G + n, mm_ent G r _ _) _
    rw [he, ← hsz]
    show H1[H.size]? = some (vp_cell _ _)
    rw [e1]
    rfl))
  rw [show ra G r i = H.size by unfold ra; rw [hAD, hsz]] at this
  exact this
/-- aaload while cells are made -/
theorem mm_aldA {l : Launch} (hx : p.tables.exec = Jvm.exec) (hb : c.code = cc) (hN : mm_N G n f g s H locs) (r i t : Nat) (hA : okA r i n = true) {L : Nat} {C : String} (he : mm_ent G r (f r i) (g r i) = .inl (G.2.2.1 t, L, .inr (.inr (.inr (.inr (fun k => mm_ro G (g r i k))))))) (ht : (mm_t G)[t]? = some (G.2.2.1 t, .object C)) {j : Int32} (hin : vp_in j L) {r2 i2 : Nat} (hq : g r i j.toNatClampNeg = (r2, i2)) (h99 : r2 ≠ 99) (hdg : decode cc pc = .ok (.aaload, 1))
    (kk : W p l e R s m args below meth c H locs cells slots Q (F0 m (pc + 1) ls (.ref (ra G r2 i2) :: rest))) : W p l e R s m args below meth c H locs cells slots Q (F0 m pc ls (.int j :: .ref (ra G r i) :: rest)) :=
  mm_ald hx hb hN.1 r i t (okA_v hA).1 he ht hin hq h99 hdg kk
theorem mm_startA {y : MethodName} {d : Nat} {as : List Value} {mc n' : Nat} (hy : plainFor y = true) (hlen : (lg_sl as).length ≤ nL)
    (body : ∀ (p : Program) (e : Env) (s : State) (m : MethodId) (args : Array Value) (below : List Frame) (meth : Method) (c : Code) (ls : Array Slot), mmC y cc nL none p s m args meth c → meth.name = y.name → mm_N G n f g s s.heap [] → lv_has ls nL (lv_args 0 as) →
      W p G.1 e (mm_rA d mc n) s m args below meth c s.heap [] (n - n) (SL n - SL n) (MQ below (mm_QA G n' f' g') args s mc (SL (n + mc) - SL n) (mm_A G)) (F0 m 0 ls [])) : mmMA G y cc nL d as n f g mc n' f' g' := by
  refine mm_ofW (cc := cc) (maxL := nL) (ret := none) hy ?_
  intro p e s m args below meth c s₁ B hml hv
  obtain ⟨rfl, ⟨hP, hK, hT⟩, hz, hX⟩ := hv
  have hts := atoms_spec (ws := .code y cc nL none :: BIG) B.pre
  have hl := lv_entry as (n := nL) hlen
  rw [lg_entry_eq]
  generalize (lg_sl as ++ List.replicate (nL - (lg_sl as).length) Slot.unset).toArray = ls at hl ⊢
  refine W_cnt (Nat.sub_self n).symm (Nat.sub_self (SL n)).symm ?_
  exact body p e s m _ below meth c ls ⟨B.exec, B.bytes, hml, B.returns, findClass_of_methodNamed B.named, fun w hw => hts w (List.mem_cons_of_mem _ hw), B.notSynchronized⟩ (name_of_methodNamed B.named B.method).1 ⟨⟨hP, hK, va_S.rf, hT⟩, hz, hX⟩ hl
theorem mm_vretA {l : Launch} {y : MethodName} {mc ns : Nat} (C0 : mmC y cc nL none p s m args meth c) (hN : mm_N G n f g s H locs) (hns : ns ≤ n ∧ n ≤ ns + mc) (hdg : decode cc pc = .ok (.return_, 1)) :
    W p l e R s m args below meth c H locs (n - ns) (SL n - SL ns) (MQ below (mm_QA G n f g) args s mc (SL (ns + mc) - SL ns) (mm_A G)) (F0 m pc ls []) := by
  obtain ⟨hx, hb, hml, hr, hown, hts, hlocks⟩ := C0
  have m2 := SL_mono hns.2
  refine W.widen (k := mc) (n := SL (ns + mc) - SL ns) (by omega) (by omega) ?_
  exact W.vret hx hb hr (fun t ht hW => ⟨rfl, ⟨hN.1.B ht hW, by rw [ht]; exact hN.2.1⟩, hN.1.2.2.1.F ht⟩) hN.1.2.2.1.2.2 hdg
theorem mm_callA {l : Launch} {st0 : List Value} {n1 mc0 : Nat} {f1 : F3} {g1 : G3} {a : Array Value} {c1 s1 : Nat} (hN : mm_N G n f g s H locs) (hr : va_Run p l e R s m args below meth c H locs cells slots mc0 s1 (F0 m pc ls st0) rest (mm_QA G n1 f1 g1 a) (mm_A G)) (hc1 : cells + mc0 = c1)
    (kk : ∀ (H1 : Heap) (locs1 : List Loc), mm_N G n1 f1 g1 s H1 locs1 → W p l e R s m args below meth c H1 locs1 c1 (slots + s1) Q (F0 m (pc + 3) ls rest)) : W p l e R s m args below meth c H locs cells slots Q (F0 m pc ls st0) := by
  obtain ⟨⟨hP, hK, hS, hT⟩, hsz, hX⟩ := hN
  subst hc1
  intro T hTH X
  obtain ⟨v', st₀, t, T', L, h0, X', hL, e1, e2, ⟨hv, ⟨⟨hP1, hK1, hT1⟩, hs1⟩, hz, hk⟩, st⟩ := hr T hTH X
  cases hv
  rw [h0] at hz hk
  obtain ⟨t2, a1, b1⟩ := kk T'.heap (locs ++ L) ⟨⟨by rw [e1]; exact hP1, hK, ⟨Nat.le_trans hS.1 (by rw [e1]; exact hz), fun q h1 h2 => by rw [e1, hk q (Nat.lt_of_lt_of_le h1 hS.1) h2]; exact hS.2.1 q h1 h2, fun q hq => by
      rcases List.mem_append.mp hq with h | h
      · exact hS.2.2 q h
      · exact hL q h⟩, hT⟩, by rw [e1]; exact hs1, hX⟩ T' rfl X'
  exact ⟨t2, st t2 a1, b1⟩
/-- a callee's own words, a constructor's -/
def mmWi (y : MethodName) (cc : ByteArray) (nL : Nat) : Prop := Cond.instanceMethod y ∈ BIG ∧ Cond.initialized y.cls ∈ BIG ∧ Cond.code y cc nL none ∈ BIG
theorem mm_goodI {y0 : MethodName} {cc0 : ByteArray} {nL0 : Nat} (hw : Cond.code y0 cc0 nL0 none ∈ BIG) : GoodIn BIG (.code y0 cc0 nL0 none :: BIG) := mm_good (fun w hw' => by
    rcases List.mem_cons.mp hw' with rfl | h
    · exact hw
    · exact h)
theorem mm_cntC {n ns mc0 : Nat} (h1 : ns ≤ n) : SL n - SL ns + (SL (n + mc0) - SL n) = SL (n + mc0) - SL ns := by
  have m1 := SL_mono h1
  have m2 := SL_mono (a := n) (b := n + mc0) (by omega)
  omega
theorem mm_callI {l : Launch} {y y0 : MethodName} {cc0 : ByteArray} {nL0 d d0 mc mc0 ns n1 : Nat} {f1 : F3} {g1 : G3} (As : List Value) {st0 : List Value} {b : Nat} {ret : Option FieldType} (C0 : mmC y cc nL ret p s m args meth c) (hl : l = G.1) (hN : mm_N G n f g s H locs) (hM : mmMA G y0 cc0 nL0 d0 (.ref b :: As) n f g mc0 n1 f1 g1) (hw : mmWi y0 cc0 nL0) (hlk : Cond.methodLink y.cls index y0 ∈ BIG) (hnm : y0.name = "<init>")
    (hd : y0.cls ≠ "java/lang/invoke/MethodHandle" ∧ y0.cls ≠ "java/lang/invoke/VarHandle" ∧ (parseMethodDescriptor y0.desc).map (fun d => d.parameters.length) = some As.length) (hRm : d0 + 1 ≤ d ∧ 8 + (nL0 + 11) + 36 * d0 ≤ 36 * d) (hns : ns ≤ n) (hmc : n1 = n + mc0 ∧ n + mc0 ≤ ns + mc)
    (hls : ls.size = nL) (hst : st0 = As.reverse ++ .ref b :: rest) (hroom : (rest.map fun v => v.category).sum ≤ 8) (hdg : decode cc pc = .ok (.invokespecial index, 3))
    (kk : ∀ (H1 : Heap) (locs1 : List Loc), mm_N G n1 f1 g1 s H1 locs1 → W p l e (mm_rA d mc ns) s m args below meth c H1 locs1 (n1 - ns) (SL n1 - SL ns) Q (F0 m (pc + 3) ls rest)) : W p l e (mm_rA d mc ns) s m args below meth c H locs (n - ns) (SL n - SL ns) Q (F0 m pc ls st0) := by
  obtain ⟨hx, hb, hml, hr, hown, hts, hlocks⟩ := C0
  subst hl
  obtain ⟨rfl, hm2⟩ := hmc
  have m1 := SL_mono hns
  have m2 := SL_mono hm2
  have m3 := SL_mono (a := n) (b := n + mc0) (by omega)
  refine mm_callA hN (va_runI (As := As) (rest := rest) (own := y.cls) (b := b) ⟨hx, hb, hml, hown, hts⟩ hM ⟨callB_of As.length hts (mm_goodI hw.2.2) rfl rfl rfl (hts _ hw.2.1) (hts _ hlk) ⟨hd.1, hd.2.1, hd.2.2⟩ ⟨hRm.1, hRm.2⟩, hnm, hts _ hw.1⟩ ⟨mm_blindA, fun U hU hW => ⟨rfl, hN.1.B hU hW, by rw [hU]; exact hN.2.1, hN.2.2.warm hW⟩⟩ rfl rfl hls hst (lv_room hroom) hdg ⟨by show _ ≤ mc; omega, by show _ ≤ SL (ns + mc) - SL ns; omega⟩) (c1 := n + mc0 - ns) (by omega) ?_
  rw [mm_cntC hns]
  exact kk
theorem mm_callIN {l : Launch} {y y0 : MethodName} {cc0 : ByteArray} {nL0 d d0 mc mc0 ns n1 : Nat} {f1 : F3} {g1 : G3} {host : String} (As : List Value) {st0 : List Value} {b : Nat} {ret : Option FieldType} (C0 : mmC y cc nL ret p s m args meth c) (hl : l = G.1) (hN : mm_N G n f g s H locs) (hM : mmMA G y0 cc0 nL0 d0 (.ref b :: As) n f g mc0 n1 f1 g1) (hw : mmWi y0 cc0 nL0) (hlk : va_Nw (.methodLinkNest y.cls index y0 host) s) (hnm : y0.name = "<init>")
    (hd : y0.cls ≠ "java/lang/invoke/MethodHandle" ∧ y0.cls ≠ "java/lang/invoke/VarHandle" ∧ (parseMethodDescriptor y0.desc).map (fun d => d.parameters.length) = some As.length) (hRm : d0 + 1 ≤ d ∧ 8 + (nL0 + 11) + 36 * d0 ≤ 36 * d) (hns : ns ≤ n) (hmc : n1 = n + mc0 ∧ n + mc0 ≤ ns + mc)
    (hls : ls.size = nL) (hst : st0 = As.reverse ++ .ref b :: rest) (hroom : (rest.map fun v => v.category).sum ≤ 8) (hdg : decode cc pc = .ok (.invokespecial index, 3))
    (kk : ∀ (H1 : Heap) (locs1 : List Loc), mm_N G n1 f1 g1 s H1 locs1 → W p l e (mm_rA d mc ns) s m args below meth c H1 locs1 (n1 - ns) (SL n1 - SL ns) Q (F0 m (pc + 3) ls rest)) : W p l e (mm_rA d mc ns) s m args below meth c H locs (n - ns) (SL n - SL ns) Q (F0 m pc ls st0) := by
  obtain ⟨hx, hb, hml, hr, hown, hts, hlocks⟩ := C0
  subst hl
  obtain ⟨rfl, hm2⟩ := hmc
  have m1 := SL_mono hns
  have m2 := SL_mono hm2
  have m3 := SL_mono (a := n) (b := n + mc0) (by omega)
  refine mm_callA hN (va_runIN (As := As) (rest := rest) (own := y.cls) (b := b) ⟨hx, hb, hml, hown, hts⟩ hM ⟨va_cnB As.length hts (mm_goodI hw.2.2) rfl rfl rfl hlk (hts _ hw.2.1) ⟨hd.1, hd.2.1, hd.2.2⟩ ⟨hRm.1, hRm.2⟩, hnm, hts _ hw.1⟩ ⟨mm_blindA, fun U hU hW => ⟨rfl, hN.1.B hU hW, by rw [hU]; exact hN.2.1, hN.2.2.warm hW⟩⟩ rfl rfl hls hst (lv_room hroom) hdg ⟨by show _ ≤ mc; omega, by show _ ≤ SL (ns + mc) - SL ns; omega⟩) (c1 := n + mc0 - ns) (by omega) ?_
  rw [mm_cntC hns]
  exact kk
theorem mm_callVA {l : Launch} {y y0 : MethodName} {cc0 : ByteArray} {nL0 d d0 mc mc0 ns n1 : Nat} {f1 : F3} {g1 : G3} (As : List Value) {st0 : List Value} {ret : Option FieldType} (C0 : mmC y cc nL ret p s m args meth c) (hl : l = G.1) (hN : mm_N G n f g s H locs) (r i : Nat) (hA : okA r i n = true) (hM : mmMA G y0 cc0 nL0 d0 (.ref (ra G r i) :: As) n f g mc0 n1 f1 g1) (hw : mmW y0 cc0 nL0 none) (hlk : Cond.methodLink y.cls index y0 ∈ BIG)
    (hd : y0.cls ≠ "java/lang/invoke/MethodHandle" ∧ y0.cls ≠ "java/lang/invoke/VarHandle" ∧ (parseMethodDescriptor y0.desc).map (fun d => d.parameters.length) = some As.length) (hRm : d0 + 1 ≤ d ∧ 8 + (nL0 + 11) + 36 * d0 ≤ 36 * d) (hns : ns ≤ n) (hmc : n1 = n + mc0 ∧ n + mc0 ≤ ns + mc) {ci : Nat} {fs : List Value} {q : vw_C} (he : mm_ent G r (f r i) (g r i) = .inr (ci, fs)) (hc : vwCl[ci]? = some q) (hq : q.1 = y0.cls)
    (hls : ls.size = nL) (hst : st0 = As.reverse ++ .ref (ra G r i) :: rest) (hroom : (rest.map fun v => v.category).sum ≤ 8) (hdg : decode cc pc = .ok (.invokevirtual index, 3))
    (kk : ∀ (H1 : Heap) (locs1 : List Loc), mm_N G n1 f1 g1 s H1 locs1 → W p l e (mm_rA d mc ns) s m args below meth c H1 locs1 (n1 - ns) (SL n1 - SL ns) Q (F0 m (pc + 3) ls rest)) : W p l e (mm_rA d mc ns) s m args below meth c H locs (n - ns) (SL n - SL ns) Q (F0 m pc ls st0) := by
  obtain ⟨hx, hb, hml, hr, hown, hts, hlocks⟩ := C0
  subst hl
  obtain ⟨rfl, hm2⟩ := hmc
  have m1 := SL_mono hns
  have m2 := SL_mono hm2
  have m3 := SL_mono (a := n) (b := n + mc0) (by omega)
  have hv := (okA_v hA).1
  have hgood : GoodIn BIG (wsV y.cls index y0.cls y0 (.code y0 cc0 nL0 none :: BIG)) := mm_good (fun w hw' => by
    unfold wsV at hw'
    rcases List.mem_append.mp hw' with h | h
    · simp only [List.mem_cons, List.not_mem_nil, or_false] at h
      rcases h with rfl | rfl | rfl | rfl
      · exact hlk
      · exact hw.1
      · exact hw.2.1
      · exact hw.2.2.1
    · rcases List.mem_cons.mp h with rfl | h
      · exact hw.2.2.2
      · exact h)
  have hrecv := va_recv hN.1.2.1 hN.1.1 (ci := ci) (q := q) (fs := fs) (q0 := AD r i) (a := ra G r i) hc (by rw [mm_wl_at hv.1 hv.2, he])
  rw [hq] at hrecv
  refine mm_callA hN (va_runV (As := As) (rest := rest) (C := y0.cls) (own := y.cls) ⟨hx, hb, hml, hown, hts⟩ hM (cwV As.length hts hgood rfl rfl rfl ⟨rfl, hd.1, hd.2.1, hd.2.2⟩ ⟨hRm.1, hRm.2⟩) ⟨mm_blindA, hrecv, fun U hU hW => ⟨rfl, hN.1.B hU hW, by rw [hU]; exact hN.2.1, hN.2.2.warm hW⟩⟩ rfl rfl hls hst (lv_room hroom) hdg ⟨by show _ ≤ mc; omega, by show _ ≤ SL (ns + mc) - SL ns; omega⟩) (c1 := n + mc0 - ns) (by omega) ?_
  rw [mm_cntC hns]
  exact kk
end MMA
def mm_b3 {β : Type} (o : Option (Nat × F3 × G3)) (k : Nat → F3 → G3 → Option β) : Option β := match o with
  | none => none
  | some q => k q.1 q.2.1 q.2.2
theorem mm_b3e {β : Type} {o : Option (Nat × F3 × G3)} {k : Nat → F3 → G3 → Option β} {z : β} (h : mm_b3 o k = some z) : ∃ n f g, o = some (n, f, g) ∧ k n f g = some z := by
  cases o with
  | none => cases h
  | some q => exact ⟨q.1, q.2.1, q.2.2, rfl, h⟩
theorem mm_p3 {a c : Nat} {b d : F3} {x y : G3} (h : some (a, b, x) = some (c, d, y)) : c = a ∧ d = b ∧ y = x := by
  have h1 := Option.some.inj h
  exact ⟨(congrArg Prod.fst h1).symm, (congrArg (fun q => q.2.1) h1).symm, (congrArg (fun q => q.2.2) h1).symm⟩
theorem mm_fitR {v : Value} {ty : FieldType} (h : fits ty v = true) : fits ty v = true := h
