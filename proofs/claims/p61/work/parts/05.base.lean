/-! THE CELLS behind the script's first two calls; arrays, the static row, calls through the interface -/
def rf_HL : List (Nat × Nat × Nat × List (Nat × Value)) := [
  (59, 2, 17, [(0, .ref 60), (11, .ref 100), (12, .int 1)]),
  (101, 7, 4, [(0, .int 0), (1, .int 0), (2, .int 1), (3, .int 999)]),
  (60, 3, 11, [(1, .ref 61)]),
  (61, 4, 2, [(0, .ref 62), (1, .int 1)]),
  (62, 51, 120, [(0, .long 7)]),
  (100, 55, 6, [(0, .ref 101)]),
  (126, 9, 17, [(0, .int 0), (4, .ref 127), (15, .ref 138)]),
  (138, 47, 3, [(0, .int 1), (1, .ref 147), (2, .int 1)]),
  (147, 57, 10, [(0, .ref 146)]),
  (146, 49, 4, [(0, .int 0), (1, .int 0), (2, .int 1), (3, .int 999)]),
  (127, 47, 3, [(0, .int 1), (1, .ref 143), (2, .int 1)]),
  (143, 57, 10, [(0, .ref 142)]),
  (142, 49, 5, [(0, .int 0), (1, .int 0), (2, .int 0)])]
def rHB (H : Heap) : Prop := 148 ≤ H.size ∧ (∀ z ∈ rf_HL, rc_at H z.1 z.2.1 z.2.2.1 z.2.2.2) ∧ ∃ c : Cell, H[6]? = some c ∧ c.vm = .statics 47 ∧ c.slots[3]? = some (.ref 9)
theorem rHB.at {H : Heap} (h : rHB H) (i : Nat) {z : Nat × Nat × Nat × List (Nat × Value)} (hz : rf_HL[i]? = some z) : rc_at H z.1 z.2.1 z.2.2.1 z.2.2.2 := h.2.1 z (List.mem_of_getElem? hz)
theorem rf_HL_lt : ∀ z ∈ rf_HL, z.1 < 148 ∧ z.1 ≠ 140 := by
  have h : rf_HL.all (fun z => decide (z.1 < 148) && decide (z.1 ≠ 140)) = true := by decide +kernel
  intro z hz
  have h1 := List.all_eq_true.mp h z hz
  simpa using h1
theorem rHB.kept {H H1 : Heap} (h : rHB H) (hs : H.size ≤ H1.size) (hk : ∀ q, q < H.size → q ≠ 140 → H1[q]? = H[q]?) : rHB H1 := by
  obtain ⟨h1, h2, c, h3, h4⟩ := h
  refine ⟨Nat.le_trans h1 hs, fun z hz => (h2 z hz).kept (hk _ ?_ (rf_HL_lt z hz).2), c, ?_, h4⟩
  · have := (rf_HL_lt z hz).1; omega
  · rw [hk 6 (by omega) (by decide)]; exact h3
theorem rc_at.sub {H : Heap} {a k n : Nat} {vs vs' : List (Nat × Value)} (h : rc_at H a k n vs) (is : List Nat) (hs : is.map (fun i => vs[i]?) = vs'.map some) : rc_at H a k n vs' := by
  obtain ⟨c, h1, h2, h3, h4, h5⟩ := h
  refine ⟨c, h1, h2, h3, h4, fun q hq => ?_⟩
  have h6 : some q ∈ is.map (fun i => vs[i]?) := by rw [hs]; exact List.mem_map.mpr ⟨q, hq, rfl⟩
  obtain ⟨i, -, hi⟩ := List.mem_map.mp h6
  exact h5 q (List.mem_of_getElem? hi)
section RF
variable {t0 : State} {p : Program} {e : Env} {R : Room} {s : State} {m : MethodId} {args : Array Value} {below : List Frame} {meth : Method} {c : Code} {H : Heap} {locs : List Loc} {cells slots : Nat} {Q : State → Prop} {cc : ByteArray} {pc : Nat} {ls : Array Slot} {rest : List Value}
theorem rg_isA (hk : rK t0) (hW : t0.WarmedH s.vm) {k : Nat} {ty : FieldType} (hA : (k, ty) ∈ rf_AL) {cell : Cell} (h2 : cell.cls = k) (h3 : cell.vm = .none) : s.isArrayOf cell ty := by
  obtain ⟨kc, comp, g1, g2⟩ := rg_arr hk hW hA
  exact ⟨(fun z hz => by rw [h3] at hz; cases hz), kc, by rw [h2]; exact g1, comp, g2⟩
theorem rg_iald (hk : rK t0) (hW : t0.WarmedH s.vm) (hx : p.tables.exec = Jvm.exec) (hb : c.code = cc) {a k n : Nat} (hA : (k, FieldType.int) ∈ rf_AL) {vs : List (Nat × Value)} {v : Value} {i : Int32} (hc : rc_at H a k n vs) (j : Nat) (hv : vs[j]? = some (i.toNatClampNeg, v)) (hin : ¬ (i < 0 ∨ n ≤ i.toNatClampNeg)) (hd : decode cc pc = .ok (.iaload, 1))
    (kk : W p launch0 e R s m args below meth c H locs cells slots Q (F0 m (pc + 1) ls (v :: rest))) : W p launch0 e R s m args below meth c H locs cells slots Q (F0 m pc ls (.int i :: .ref a :: rest)) := by
  obtain ⟨cell, h1, h2, h3, h4, h5⟩ := hc
  exact W.iald hx hb h1 (rg_isA hk hW hA h2 h3) (by rw [h3]; exact fun h => by cases h) (by rw [h4]; exact hin) (h5 _ (List.mem_of_getElem? hv)) rfl rfl hd kk
theorem rg_lald (hk : rK t0) (hW : t0.WarmedH s.vm) (hx : p.tables.exec = Jvm.exec) (hb : c.code = cc) {a k n : Nat} (hA : (k, FieldType.long) ∈ rf_AL) {vs : List (Nat × Value)} {v : Value} {i : Int32} (hc : rc_at H a k n vs) (j : Nat) (hv : vs[j]? = some (i.toNatClampNeg, v)) (hin : ¬ (i < 0 ∨ n ≤ i.toNatClampNeg)) (hd : decode cc pc = .ok (.laload, 1))
    (kk : W p launch0 e R s m args below meth c H locs cells slots Q (F0 m (pc + 1) ls (v :: rest))) : W p launch0 e R s m args below meth c H locs cells slots Q (F0 m pc ls (.int i :: .ref a :: rest)) := by
  obtain ⟨cell, h1, h2, h3, h4, h5⟩ := hc
  exact W.lald hx hb h1 (rg_isA hk hW hA h2 h3) (by rw [h3]; exact fun h => by cases h) (by rw [h4]; exact hin) (h5 _ (List.mem_of_getElem? hv)) rfl rfl hd kk
theorem rg_aald (hk : rK t0) (hW : t0.WarmedH s.vm) (hx : p.tables.exec = Jvm.exec) (hb : c.code = cc) {a k n : Nat} (ty : FieldType) (hA : (k, ty) ∈ rf_AL) (hty : ty.isReference = true) {vs : List (Nat × Value)} {v : Value} {i : Int32} (hc : rc_at H a k n vs) (j : Nat) (hv : vs[j]? = some (i.toNatClampNeg, v)) (hin : ¬ (i < 0 ∨ n ≤ i.toNatClampNeg)) (hd : decode cc pc = .ok (.aaload, 1))
    (kk : W p launch0 e R s m args below meth c H locs cells slots Q (F0 m (pc + 1) ls (v :: rest))) : W p launch0 e R s m args below meth c H locs cells slots Q (F0 m pc ls (.int i :: .ref a :: rest)) := by
  obtain ⟨cell, h1, h2, h3, h4, h5⟩ := hc
  exact W.aald hx hb h1 (rg_isA hk hW hA h2 h3) hty (by rw [h3]; exact fun h => by cases h) (by rw [h4]; exact hin) (h5 _ (List.mem_of_getElem? hv)) rfl rfl hd kk
theorem rg_alen (hk : rK t0) (hW : t0.WarmedH s.vm) (hx : p.tables.exec = Jvm.exec) (hb : c.code = cc) {a k n : Nat} (ty : FieldType) (hA : (k, ty) ∈ rf_AL) {vs : List (Nat × Value)} {v : Int32} (hc : rc_at H a k n vs) (hv : n.toInt32 = v) (hd : decode cc pc = .ok (.arraylength, 1))
    (kk : W p launch0 e R s m args below meth c H locs cells slots Q (F0 m (pc + 1) ls (.int v :: rest))) : W p launch0 e R s m args below meth c H locs cells slots Q (F0 m pc ls (.ref a :: rest)) := by
  obtain ⟨cell, h1, h2, h3, h4, h5⟩ := hc
  exact W.alen hx hb h1 (rg_isA hk hW hA h2 h3) (by rw [h4]; exact hv) rfl rfl hd kk
/-- checkcast of an array to its own class -/
theorem rg_cast (hk : rK t0) (hW : t0.WarmedH s.vm) (hx : p.tables.exec = Jvm.exec) (hb : c.code = cc) {own nm : String} (hown : s.vm.findClass own = some m.cls) {idx a k n : Nat} (hl : Cond.classLink own idx nm ∈ rf_W) {vs : List (Nat × Value)} (hc : rc_at H a k n vs) (hnm : s.vm.findClass nm = some k) (hd : decode cc pc = .ok (.checkcast idx, 3))
    (kk : W p launch0 e R s m args below meth c H locs cells slots Q (F0 m (pc + 3) ls (.ref a :: rest))) : W p launch0 e R s m args below meth c H locs cells slots Q (F0 m pc ls (.ref a :: rest)) := by
  obtain ⟨cell, h1, h2, h3, h4, h5⟩ := hc
  intro T hT X
  obtain ⟨vm', X', st⟩ := X.checkcastYes hx hown (rw_at hk hW hl _) (by rw [hT]; exact h1) (by rw [h3]; rfl) hnm (by rw [h2]; exact va_asg _ _) (g := F0 m pc ls (.ref a :: rest)) rfl rfl (by rw [hb]; exact hd)
  obtain ⟨t, a1, b1⟩ := kk (T.setVm vm') hT X'
  exact ⟨t, st t a1, b1⟩
theorem rg_gets (hk : rK t0) (hW : t0.WarmedH s.vm) (hx : p.tables.exec = Jvm.exec) (hb : c.code = cc) (hown : s.vm.findClass "java/util/ArrayList" = some m.cls) {idx : Nat} (hl : Cond.fieldLink "java/util/ArrayList" idx "java/util/ArrayList" "DEFAULTCAPACITY_EMPTY_ELEMENTDATA" "[Ljava/lang/Object;" ∈ rf_W) (hc : ∃ c : Cell, H[6]? = some c ∧ c.vm = .statics 47 ∧ c.slots[3]? = some (.ref 9)) (hd : decode cc pc = .ok (.getstatic idx, 3))
    (kk : W p launch0 e R s m args below meth c H locs cells slots Q (F0 m (pc + 3) ls (.ref 9 :: rest))) : W p launch0 e R s m args below meth c H locs cells slots Q (F0 m pc ls rest) := by
  obtain ⟨cell, h1, h2, h3⟩ := hc
  have g := hk.2.2.2.2.1.1
  unfold rb_sta at g
  split at g
  · rename_i cf k i f hf
    simp only [Bool.and_eq_true, beq_iff_eq, decide_eq_true_eq] at g
    obtain ⟨k', hk', he⟩ := State.fieldFound?_setVm (s := t0) (hW.alike) hf
    have hi : s.fieldFound? "java/util/ArrayList" "DEFAULTCAPACITY_EMPTY_ELEMENTDATA" "[Ljava/lang/Object;" = some (cf, k', i, f) := by simpa only [State.fieldFound?, State.vm_setVm] using hk'
    exact W.gets hx hb hown (rw_at hk hW hl _) hi g.1 (by rw [he]; exact g.2.1) (a₁ := 6) (by rw [he]; exact g.2.2.1) h1 (by rw [h2]; exact fun h => by cases h) (v := .ref 9) (by rw [g.2.2.2]; exact h3) rfl hd kk
  · cases g
theorem rg_I (hk : rK t0) (hW : t0.WarmedH s.vm) : s.vm.findClass "[I" = some 49 := by rw [hW.alike.findClass]; exact hk.2.2.2.2.1.2
/-- a row of ints, whatever they are -/
def rI (H : Heap) (a n : Nat) : Prop := ∃ cell : Cell, H[a]? = some cell ∧ cell.cls = 49 ∧ cell.vm = .none ∧ cell.slots.size = n ∧ ∀ j : Nat, j < n → ∃ x : Int32, cell.slots[j]? = some (.int x)
theorem rI.kept {H H1 : Heap} {a n : Nat} (h : rI H a n) (e : H1[a]? = H[a]?) : rI H1 a n := by
  obtain ⟨c, h1, h2⟩ := h
  exact ⟨c, e.trans h1, h2⟩
theorem rg_newa (hk : rK t0) (hW : t0.WarmedH s.vm) (hx : p.tables.exec = Jvm.exec) (hb : c.code = cc) (hl : Cond.arrayClass .int ∈ rf_W) {i : Int32} {n : Nat} (hi : i.toNatClampNeg = n) (h0 : ¬ i < 0) (hs : n ≤ 1000) (hcells : cells + 1 ≤ R.cells) (hslots : slots + n ≤ R.slots) (hd : decode cc pc = .ok (.newarray .int, 2))
    (kk : ∀ H1 : Heap, H1.size = H.size + 1 → (∀ x, x < H.size → H1[x]? = H[x]?) → rI H1 H.size n → W p launch0 e R s m args below meth c H1 locs (cells + 1) (slots + n) Q (F0 m (pc + 2) ls (.ref H.size :: rest))) : W p launch0 e R s m args below meth c H locs cells slots Q (F0 m pc ls (.int i :: rest)) := by
  subst hi
  refine W.newa (atype := .int) hx hb (rw_at hk hW hl _) rfl hd rfl h0 ?_ hcells hslots (fun cA kA comp g1 g2 g3 => kk _ (by simp) (fun x hx => by rw [Array.getElem?_push, if_neg (by omega)]) ⟨{ cls := cA, slots := Array.replicate i.toNatClampNeg (defaultValue (newarray.typeOf .int)), vm := .none }, by simp, ?_, rfl, by simp, fun j hj => ⟨0, ?_⟩⟩)
  · show i.toNatClampNeg * 4 ≤ 536870912
    omega
  · exact Option.some.inj (g1.symm.trans (rg_I hk hW))
  · show (Array.replicate i.toNatClampNeg (defaultValue (newarray.typeOf .int)))[j]? = some (.int 0)
    rw [Array.getElem?_replicate, if_pos hj]
    rfl
theorem rg_iast (hk : rK t0) (hW : t0.WarmedH s.vm) (hx : p.tables.exec = Jvm.exec) (hb : c.code = cc) {a n : Nat} {i x : Int32} (hA : (49, FieldType.int) ∈ rf_AL) (hc : rI H a n) (hin : ¬ (i < 0 ∨ n ≤ i.toNatClampNeg)) (hd : decode cc pc = .ok (.iastore, 1))
    (kk : ∀ (H1 : Heap) (z : Nat), H1.size = H.size → (∀ x, x ≠ a → H1[x]? = H[x]?) → rI H1 a n → W p launch0 e R s m args below meth c H1 (locs ++ [⟨a, z⟩]) cells slots Q (F0 m (pc + 1) ls rest)) : W p launch0 e R s m args below meth c H locs cells slots Q (F0 m pc ls (.int x :: .int i :: .ref a :: rest)) := by
  obtain ⟨cell, h1, h2, h3, h4, h5⟩ := hc
  refine W.iast hx hb h1 (rg_isA hk hW hA h2 h3) (by rw [h3]; exact fun h => by cases h) (by rw [h4]; exact hin) rfl rfl hd (fun H' g1 g2 g3 => kk H' _ g2 g3 ⟨_, g1, h2, h3, ?_, fun j hj => ?_⟩)
  · show (cell.slots.setIfInBounds _ _).size = n
    rw [Array.size_setIfInBounds]; exact h4
  · by_cases hjk : i.toNatClampNeg = j
    · subst hjk
      exact ⟨x, Cell.slots_setSlot_self (.int x) (by rw [h4]; exact hj)⟩
    · rw [slot_ne _ _ hjk]
      exact h5 j hj
theorem rg_ialdI (hk : rK t0) (hW : t0.WarmedH s.vm) (hx : p.tables.exec = Jvm.exec) (hb : c.code = cc) {a n : Nat} (hA : (49, FieldType.int) ∈ rf_AL) {i : Int32} (hc : rI H a n) (hin : ¬ (i < 0 ∨ n ≤ i.toNatClampNeg)) (hlt : i.toNatClampNeg < n) (hd : decode cc pc = .ok (.iaload, 1))
    (kk : ∀ v : Int32, W p launch0 e R s m args below meth c H locs cells slots Q (F0 m (pc + 1) ls (.int v :: rest))) : W p launch0 e R s m args below meth c H locs cells slots Q (F0 m pc ls (.int i :: .ref a :: rest)) := by
  obtain ⟨cell, h1, h2, h3, h4, h5⟩ := hc
  obtain ⟨v, hv⟩ := h5 _ hlt
  exact W.iald hx hb h1 (rg_isA hk hW hA h2 h3) (by rw [h3]; exact fun h => by cases h) (by rw [h4]; exact hin) hv rfl rfl hd (kk v)
/-- invokeinterface -/
theorem rg_cf (hk : rK t0) (hW : t0.WarmedH s.vm) (hx : p.tables.exec = Jvm.exec) (hb : c.code = cc) {nL : Nat} (hml : c.maxLocals = nL) (hsize : ls.size = nL) {own : String} (hown : s.vm.findClass own = some m.cls) {idx cnt : Nat} {x y : MethodName} {b : ByteArray} {maxL : Nat} {ret : Option FieldType} {fr lo mc ms n k a : Nat} {As : List Value} {B : Heap → Prop} {post : Heap → Option Value → Heap → Prop} {free : Addr → Prop} {vs : List (Nat × Value)} (hM : RM t0 y b maxL ret fr lo mc ms (.ref a :: As) B post free) (tys : List FieldType) (hcl : (y.cls, k, tys) ∈ rf_CL) (hc : rc_at H a k n vs) (hB : B H)
    (na : Nat) (hna : As.length = na)
    (hw : [Cond.methodLink own idx x, .code y b maxL ret, .initialized y.cls, .instanceMethod y, .selects y.cls x y].all (fun w => decide (w ∈ rf_W)) = true)
    (hw2 : [Cond.declares x, .interfaceMethod x.cls x.cls x.name x.desc, .publicMethod y, .unhidden y.cls x.name x.desc, .castable y.cls x.cls].all (fun w => decide (w ∈ rf_X)) = true)
    (hd : x.cls ≠ "java/lang/invoke/MethodHandle" ∧ x.cls ≠ "java/lang/invoke/VarHandle" ∧ (parseMethodDescriptor x.desc).map (fun d => d.parameters.length) = some na) (hR : fr + 1 ≤ R.frames ∧ 8 + (maxL + 11) + lo ≤ R.locals) (hcat : (rest.map fun v => v.category).sum ≤ 8) (hf : cells + mc ≤ R.cells ∧ slots + ms ≤ R.slots) (hdg : decode cc pc = .ok (.invokeinterface idx cnt, 5)) {st : List Value} (hst : st = As.reverse ++ .ref a :: rest)
    (kk : ∀ (v : Option Value) (H1 : Heap) (L : List Loc), post H v H1 → (∀ x ∈ L, free x.base) → W p launch0 e R s m args below meth c H1 (locs ++ L) (cells + mc) (slots + ms) Q (F0 m (pc + 5) ls (v.toList ++ rest))) : W p launch0 e R s m args below meth c H locs cells slots Q (F0 m pc ls st) := by
  simp only [List.all_cons, List.all_nil, Bool.and_true, Bool.and_eq_true, decide_eq_true_eq] at hw hw2
  obtain ⟨w1, w2, w3, w4, w5⟩ := hw
  obtain ⟨u1, u2, u3, u4, u5⟩ := hw2
  obtain ⟨cell, h1, h2, h3, -⟩ := hc
  obtain ⟨hfc, kC, hkC, hkd, -⟩ := rg_cls hk hW hcl
  have hF0 : va_Fw y.cls x y t0 := va_Fw.of (A := #[]) (hk.2.2.2.2.2 _ u1).2 (hk.2.2.2.2.2 _ u2).2 (hk.2.2.2.2.2 _ u3).2 (hk.2.2.2.2.2 _ u4).2 (hk.2.2.2.2.2 _ u5).2
  have hF : va_Fw y.cls x y s := va_Fw.moved ⟨hd.1, hd.2.1⟩ hW.alike hF0
  subst hst
  have cw : va_CI R s args own y.cls idx x y b maxL ret [.code y b maxL ret] (rRm fr lo mc ms) mc ms na := by
    refine ⟨⟨rfl, rfl, hR.1, hR.2, ?_, List.mem_cons_self⟩, rw_at hk hW w1 _, va_any rfl hF.1, va_any rfl hF.2.1, rw_at hk hW w5 _, rw_at hk hW w4 _, va_any rfl hF.2.2.1, va_any rfl hF.2.2.2.1, va_any rfl hF.2.2.2.2, rw_at hk hW w3 _, rw_at hk hW w2 _, ⟨hd.1, hd.2.1⟩, fun sig h => ?_⟩
    · intro w hw a' U hU
      rw [List.mem_singleton.mp hw]
      exact rw_up hk hW w2 a' U hU
    · have h2 := hd.2.2
      rw [h] at h2
      exact (Option.some.inj h2).symm
  have hr := va_runF (e := e) (cells := cells) (slots := slots) (locs := locs) (below := below) (meth := meth) (H := H) (g := F0 m pc ls (As.reverse ++ .ref a :: rest)) (rest := rest) (cC := k) ⟨hfc, kC, hkC, hkd⟩ (Ts := []) ⟨hx, hb, hml, hown, fun w h => absurd h List.not_mem_nil⟩ hM cw ⟨rg_blind, ⟨cell, h1, by rw [h3]; rfl, by rw [h2]; exact hfc⟩, fun U hU hU2 => ⟨rfl, State.WarmedH.trans hW hU2, by rw [hU]; exact hB⟩⟩ rfl hna hsize rfl (by show 2 * 0 + _ ≤ 8; omega) hdg hf
  intro T hT X
  obtain ⟨v, st₀, t, T', L, e0, X', hL, e1, e2, ⟨w, hw, hp⟩, st⟩ := hr T hT X
  cases hw
  rw [e0] at hp
  obtain ⟨t2, a1, b1⟩ := kk v T'.heap L (by rw [e1]; exact hp) hL T' rfl X'
  exact ⟨t2, st t2 a1, b1⟩
end RF
