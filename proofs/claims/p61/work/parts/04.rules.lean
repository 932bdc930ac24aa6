section RF
variable {t0 : State} {p : Program} {e : Env} {R : Room} {s : State} {m : MethodId} {args : Array Value} {below : List Frame} {meth : Method} {c : Code} {H : Heap} {locs : List Loc} {cells slots : Nat} {Q : State → Prop} {cc : ByteArray} {pc : Nat} {ls : Array Slot} {rest : List Value}
theorem rg_get (hk : rK t0) (hW : t0.WarmedH s.vm) (hx : p.tables.exec = Jvm.exec) (hb : c.code = cc) {own : String} (hown : s.vm.findClass own = some m.cls) {idx a k n : Nat} (q : rf_Fd) (hq : q ∈ rf_FL) (hl : Cond.fieldLink own idx q.1 q.2.1 q.2.2.1 ∈ rf_W) {vs : List (Nat × Value)} {v : Value} (hc : rc_at H a k n vs) (j : Nat) (hv : vs[j]? = some (q.2.2.2.1, v)) (hd : decode cc pc = .ok (.getfield idx, 3))
    (kk : W p launch0 e R s m args below meth c H locs cells slots Q (F0 m (pc + 3) ls (v :: rest))) : W p launch0 e R s m args below meth c H locs cells slots Q (F0 m pc ls (.ref a :: rest)) := by
  obtain ⟨k', i, f, hi, hst, hsl, -, -⟩ := rg_fld hk hW hq
  obtain ⟨cell, h1, h2, h3, h4, h5⟩ := hc
  refine W.getf hx hb hown (rw_at hk hW hl _) hi hst h1 (by rw [h3]; exact fun h => by cases h) (v := v) ?_ rfl rfl hd kk
  rw [hsl]; exact h5 _ (List.mem_of_getElem? hv)
theorem rg_getN (hk : rK t0) (hW : t0.WarmedH s.vm) (hx : p.tables.exec = Jvm.exec) (hb : c.code = cc) {own host : String} (hown : s.vm.findClass own = some m.cls) {idx a k n : Nat} (q : rf_Fd) (hq : q ∈ rf_FL) (hl : Cond.fieldLinkNest own idx q.1 q.2.1 q.2.2.1 host ∈ rf_W) {vs : List (Nat × Value)} {v : Value} (hc : rc_at H a k n vs) (j : Nat) (hv : vs[j]? = some (q.2.2.2.1, v)) (hd : decode cc pc = .ok (.getfield idx, 3))
    (kk : W p launch0 e R s m args below meth c H locs cells slots Q (F0 m (pc + 3) ls (v :: rest))) : W p launch0 e R s m args below meth c H locs cells slots Q (F0 m pc ls (.ref a :: rest)) := by
  obtain ⟨k', i, f, hi, hst, hsl, -, -⟩ := rg_fld hk hW hq
  obtain ⟨cell, h1, h2, h3, h4, h5⟩ := hc
  refine va_Wgetf hx hb hown (rw_at hk hW hl _) hi hst h1 (by rw [h3]; exact fun h => by cases h) (v := v) ?_ rfl rfl hd kk
  rw [hsl]; exact h5 _ (List.mem_of_getElem? hv)
theorem rc_same {cell : Cell} {H : Heap} {a i : Nat} {v : Value} (h1 : H[a]? = some cell) (h2 : cell.slots[i]? = some v) : H.setIfInBounds a (cell.setSlot i v) = H := by
  have e : cell.setSlot i v = cell := by
    have : cell.slots.setIfInBounds i v = cell.slots := by
      apply Array.ext
      · simp
      · intro j g1 g2
        rw [Array.getElem_setIfInBounds (by simpa using g2)]
        split
        · rename_i hij
          subst hij
          have := (Array.getElem?_eq_some_iff.mp h2).2
          exact this.symm
        · rfl
    unfold Cell.setSlot
    rw [this]
  rw [e]
  apply Array.ext
  · simp
  · intro j g1 g2
    rw [Array.getElem_setIfInBounds (by simpa using g2)]
    split
    · rename_i hij
      subst hij
      exact ((Array.getElem?_eq_some_iff.mp h1).2).symm
    · rfl
/-- a field is written: its cell's new contents; all else stays -/
theorem rg_put (hk : rK t0) (hW : t0.WarmedH s.vm) (hx : p.tables.exec = Jvm.exec) (hb : c.code = cc) {own : String} (hown : s.vm.findClass own = some m.cls) {idx a n : Nat} (q : rf_Fd) (hq : q ∈ rf_FL) (hl : Cond.fieldLink own idx q.1 q.2.1 q.2.2.1 ∈ rf_W) (cl : String × Nat × List FieldType) (hcl : cl ∈ rf_CL) (hty : cl.2.2[q.2.2.2.1]? = some q.2.2.2.2.2.2) (hsz : n = cl.2.2.length)
    (hfin : q.2.2.2.2.2.1 = false ∨ (meth.name = "<init>" ∧ q.2.2.2.2.1 = cl.2.1 ∧ cl.1 = own)) {vs : List (Nat × Value)} {v : Value} (hc : rc_at H a cl.2.1 n vs) (hn : narrow q.2.2.2.2.2.2 v = v) (hf : fits q.2.2.2.2.2.2 v = true) (hd : decode cc pc = .ok (.putfield idx, 3))
    (kk : ∀ H1 : Heap, H1.size = H.size → (∀ x, x ≠ a → H1[x]? = H[x]?) → rc_at H1 a cl.2.1 n ((q.2.2.2.1, v) :: vs.filter (fun z => z.1 != q.2.2.2.1)) → W p launch0 e R s m args below meth c H1 (locs ++ [⟨a, q.2.2.2.1⟩]) cells slots Q (F0 m (pc + 3) ls rest)) : W p launch0 e R s m args below meth c H locs cells slots Q (F0 m pc ls (v :: .ref a :: rest)) := by
  obtain ⟨k', i, f, hi, hst, hsl, hfl, hft⟩ := rg_fld hk hW hq
  obtain ⟨hfc, kC, hkC, hkind, htys⟩ := rg_cls hk hW hcl
  obtain ⟨cell, h1, h2, h3, h4, h5⟩ := hc
  have hlt : f.slot < cell.slots.size := by
    rw [hsl, h4, hsz]
    exact (List.getElem?_eq_some_iff.mp hty).1
  have hit : kC.instanceTypes[f.slot]? = some f.type := by
    rw [hsl, hft, ← Array.getElem?_toList, htys]; exact hty
  have hfs : s.fitsSlot cell.cls cell.vm f.slot v = true := by
    rw [h2, h3]
    exact fresh_fits (s := s) (U := s) (Vm.Alike.refl _) hkC hkind hit (by rw [hft]; exact hf)
  refine W.putf hx hb hown (rw_at hk hW hl _) hi hst ?_ h1 (by rw [h3]; exact fun h => by cases h) hlt (by rw [hft]; exact hn) hfs rfl rfl hd ?_
  · rcases hfin with h | ⟨g1, g2, g3⟩
    · exact Or.inl (by rw [hfl]; exact h)
    · refine Or.inr ⟨?_, g1⟩
      rw [g3] at hfc
      rw [g2]
      exact Option.some.inj (hown.symm.trans hfc)
  · rw [hsl]
    have ha : a < H.size := (Array.getElem?_eq_some_iff.mp h1).1
    refine kk _ (by simp) (fun x hx => by simp [Array.getElem?_setIfInBounds, Ne.symm hx]) ⟨cell.setSlot q.2.2.2.1 v, by simp [Array.getElem?_setIfInBounds, ha], h2, h3, ?_, ?_⟩
    · show (cell.slots.setIfInBounds _ _).size = n
      rw [Array.size_setIfInBounds]; exact h4
    · intro z hz
      rcases List.mem_cons.mp hz with rfl | hz
      · exact Cell.slots_setSlot_self v (by rw [← hsl]; exact hlt)
      · obtain ⟨z1, z2⟩ := List.mem_filter.mp hz
        have hne : z.1 ≠ q.2.2.2.1 := by simpa using z2
        rw [slot_ne _ _ (Ne.symm hne)]
        exact h5 z z1
/-- a field is written what it held -/
theorem rg_puts (hk : rK t0) (hW : t0.WarmedH s.vm) (hx : p.tables.exec = Jvm.exec) (hb : c.code = cc) {own : String} (hown : s.vm.findClass own = some m.cls) {idx a n : Nat} (q : rf_Fd) (hq : q ∈ rf_FL) (hl : Cond.fieldLink own idx q.1 q.2.1 q.2.2.1 ∈ rf_W) (cl : String × Nat × List FieldType) (hcl : cl ∈ rf_CL) (hty : cl.2.2[q.2.2.2.1]? = some q.2.2.2.2.2.2) (hsz : n = cl.2.2.length)
    (hfin : q.2.2.2.2.2.1 = false) {vs : List (Nat × Value)} {v : Value} (hc : rc_at H a cl.2.1 n vs) (j : Nat) (hv : vs[j]? = some (q.2.2.2.1, v)) (hn : narrow q.2.2.2.2.2.2 v = v) (hf : fits q.2.2.2.2.2.2 v = true) (hd : decode cc pc = .ok (.putfield idx, 3))
    (kk : W p launch0 e R s m args below meth c H (locs ++ [⟨a, q.2.2.2.1⟩]) cells slots Q (F0 m (pc + 3) ls rest)) : W p launch0 e R s m args below meth c H locs cells slots Q (F0 m pc ls (v :: .ref a :: rest)) := by
  obtain ⟨k', i, f, hi, hst, hsl, hfl, hft⟩ := rg_fld hk hW hq
  obtain ⟨hfc, kC, hkC, hkind, htys⟩ := rg_cls hk hW hcl
  obtain ⟨cell, h1, h2, h3, h4, h5⟩ := hc
  have hlt : f.slot < cell.slots.size := by
    rw [hsl, h4, hsz]
    exact (List.getElem?_eq_some_iff.mp hty).1
  have hit : kC.instanceTypes[f.slot]? = some f.type := by
    rw [hsl, hft, ← Array.getElem?_toList, htys]; exact hty
  have hfs : s.fitsSlot cell.cls cell.vm f.slot v = true := by
    rw [h2, h3]
    exact fresh_fits (s := s) (U := s) (Vm.Alike.refl _) hkC hkind hit (by rw [hft]; exact hf)
  refine W.putf hx hb hown (rw_at hk hW hl _) hi hst (Or.inl (by rw [hfl]; exact hfin)) h1 (by rw [h3]; exact fun h => by cases h) hlt (by rw [hft]; exact hn) hfs rfl rfl hd ?_
  rw [hsl, rc_same h1 (h5 _ (List.mem_of_getElem? hv))]
  exact kk
/-- a new object -/
theorem rg_new (hk : rK t0) (hW : t0.WarmedH s.vm) (hx : p.tables.exec = Jvm.exec) (hb : c.code = cc) {own : String} (hown : s.vm.findClass own = some m.cls) {idx n : Nat} (cl : String × Nat × List FieldType) (hcl : cl ∈ rf_CL) (hl : Cond.classLink own idx cl.1 ∈ rf_W) (hi : Cond.instantiable cl.1 n ∈ rf_W) (hn : Cond.initialized cl.1 ∈ rf_W) (hsz : n = cl.2.2.length) {vs : List (Nat × Value)} (hvs : vs.all (fun z => decide ((cl.2.2.map defaultValue)[z.1]? = some z.2)) = true) (hcells : cells + 1 ≤ R.cells) (hslots : slots + n ≤ R.slots) (hd : decode cc pc = .ok (.new idx, 3))
    (kk : ∀ H1 : Heap, H1.size = H.size + 1 → (∀ x, x < H.size → H1[x]? = H[x]?) → rc_at H1 H.size cl.2.1 n vs → W p launch0 e R s m args below meth c H1 locs (cells + 1) (slots + n) Q (F0 m (pc + 3) ls (.ref H.size :: rest))) : W p launch0 e R s m args below meth c H locs cells slots Q (F0 m pc ls rest) := by
  obtain ⟨hfc, kC0, hkC0, -, htys⟩ := rg_cls hk hW hcl
  refine W.newc hx hb hown (rw_at hk hW hl _) (rw_at hk hW hi _) (rw_at hk hW hn _) rfl hd hcells hslots (fun cC kC h1 h2 h3 h4 => ?_)
  cases hfc.symm.trans h1
  cases hkC0.symm.trans h2
  refine kk _ (by simp) (fun x hx => by rw [Array.getElem?_push, if_neg (by omega)]) ⟨{ cls := cl.2.1, slots := kC0.instanceTypes.map defaultValue, vm := .none }, by simp, rfl, rfl, by simpa using h4, ?_⟩
  intro z hz
  have h5 := List.all_eq_true.mp hvs z hz
  have h6 := of_decide_eq_true h5
  rw [← Array.getElem?_toList, Array.toList_map, htys]
  exact h6
/-- every call: what it leaves behind -/
theorem rg_call {mc ms : Nat} {g : JFrame} {Qa : State → Outcome → State → Prop} {post : Heap → Option Value → Heap → Prop} {free : Addr → Prop} (hr : CallRun p launch0 e R s m args below meth c H locs cells slots mc ms g rest Qa free) (hq : ∀ st o t, Qa st o t → ∃ v, o = .returned v ∧ post st.heap v t.heap)
    (kk : ∀ (v : Option Value) (H1 : Heap) (L : List Loc), post H v H1 → (∀ x ∈ L, free x.base) → W p launch0 e R s m args below meth c H1 (locs ++ L) (cells + mc) (slots + ms) Q { g with pc := g.pc + 3, stack := v.toList ++ rest }) : W p launch0 e R s m args below meth c H locs cells slots Q g := by
  intro T hT X
  obtain ⟨v, st₀, t, T', L, h0, X', hL, e1, hqa, st⟩ := hr T hT X
  obtain ⟨w, hw, hp⟩ := hq _ _ _ hqa
  cases hw
  rw [h0] at hp
  obtain ⟨t2, a1, b1⟩ := kk v T'.heap L (by rw [e1]; exact hp) hL T' rfl X'
  exact ⟨t2, st t2 a1, b1⟩
theorem rg_blind {av : List Value} {B : Heap → Prop} : FrameBlind (rP t0 av B) := fun a U g mk q => ⟨q.1, q.2.1, q.2.2⟩
theorem rg_cb (hk : rK t0) (hW : t0.WarmedH s.vm) {own : String} {idx : Nat} {y : MethodName} {b : ByteArray} {maxL : Nat} {ret : Option FieldType} {fr lo mc ms n : Nat} (hl : Cond.methodLink own idx y ∈ rf_W) (hco : Cond.code y b maxL ret ∈ rf_W) (hi : Cond.initialized y.cls ∈ rf_W)
    (hd : y.cls ≠ "java/lang/invoke/MethodHandle" ∧ y.cls ≠ "java/lang/invoke/VarHandle" ∧ (parseMethodDescriptor y.desc).map (fun d => d.parameters.length) = some n) (hR : fr + 1 ≤ R.frames ∧ 8 + (maxL + 11) + lo ≤ R.locals) :
    CallB R s args own idx y b maxL ret [.code y b maxL ret] (rRm fr lo mc ms) mc ms n := by
  refine ⟨rfl, rfl, hR.1, hR.2, ?_, List.mem_cons_self, rw_at hk hW hco _, rw_at hk hW hi _, ⟨hd.1, hd.2.1⟩, fun sig h => ?_, rw_at hk hW hl _⟩
  · intro w hw a' U hU
    rw [List.mem_singleton.mp hw]
    exact rw_up hk hW hco a' U hU
  · have h2 := hd.2.2
    rw [h] at h2
    exact (Option.some.inj h2).symm
/-- invokevirtual -/
theorem rg_cv (hk : rK t0) (hW : t0.WarmedH s.vm) (hx : p.tables.exec = Jvm.exec) (hb : c.code = cc) {nL : Nat} (hml : c.maxLocals = nL) (hsize : ls.size = nL) {own : String} (hown : s.vm.findClass own = some m.cls) {idx : Nat} {y : MethodName} {b : ByteArray} {maxL : Nat} {ret : Option FieldType} {fr lo mc ms n k a : Nat} {As : List Value} {B : Heap → Prop} {post : Heap → Option Value → Heap → Prop} {free : Addr → Prop} {vs : List (Nat × Value)} (hM : RM t0 y b maxL ret fr lo mc ms (.ref a :: As) B post free) (tys : List FieldType) (hcl : (y.cls, k, tys) ∈ rf_CL) (hc : rc_at H a k n vs) (hB : B H)
    (na : Nat) (hna : As.length = na)
    (hw : [Cond.methodLink own idx y, .code y b maxL ret, .initialized y.cls, .instanceMethod y, .selects y.cls y y].all (fun w => decide (w ∈ rf_W)) = true)
    (hd : y.cls ≠ "java/lang/invoke/MethodHandle" ∧ y.cls ≠ "java/lang/invoke/VarHandle" ∧ (parseMethodDescriptor y.desc).map (fun d => d.parameters.length) = some na) (hR : fr + 1 ≤ R.frames ∧ 8 + (maxL + 11) + lo ≤ R.locals) (hcat : (rest.map fun v => v.category).sum ≤ 8) (hf : cells + mc ≤ R.cells ∧ slots + ms ≤ R.slots) (hdg : decode cc pc = .ok (.invokevirtual idx, 3)) {st : List Value} (hst : st = As.reverse ++ .ref a :: rest)
    (kk : ∀ (v : Option Value) (H1 : Heap) (L : List Loc), post H v H1 → (∀ x ∈ L, free x.base) → W p launch0 e R s m args below meth c H1 (locs ++ L) (cells + mc) (slots + ms) Q (F0 m (pc + 3) ls (v.toList ++ rest))) : W p launch0 e R s m args below meth c H locs cells slots Q (F0 m pc ls st) := by
  simp only [List.all_cons, List.all_nil, Bool.and_true, Bool.and_eq_true, decide_eq_true_eq] at hw
  obtain ⟨w1, w2, w3, w4, w5⟩ := hw
  obtain ⟨cell, h1, h2, h3, -⟩ := hc
  obtain ⟨hfc, -⟩ := rg_cls hk hW hcl
  subst hst
  refine rg_call (W.runV (Ts := []) ⟨hx, hb, hml, hown, fun w h => absurd h List.not_mem_nil⟩ hM ⟨rg_cb hk hW w1 w2 w3 hd hR, rw_at hk hW w4 _, rw_at hk hW w5 _⟩ ⟨rg_blind, ⟨cell, h1, by rw [h3]; rfl, by rw [h2]; exact hfc⟩, fun U hU hU2 => ⟨rfl, State.WarmedH.trans hW hU2, by rw [hU]; exact hB⟩⟩ rfl hna hsize rfl (by show 2 * 0 + _ ≤ 8; omega) hdg hf) (fun st o t h => h) kk
/-- invokestatic -/
theorem rg_cs (hk : rK t0) (hW : t0.WarmedH s.vm) (hx : p.tables.exec = Jvm.exec) (hb : c.code = cc) {nL : Nat} (hml : c.maxLocals = nL) (hsize : ls.size = nL) {own : String} (hown : s.vm.findClass own = some m.cls) {idx : Nat} {y : MethodName} {b : ByteArray} {maxL : Nat} {ret : Option FieldType} {fr lo mc ms : Nat} {As : List Value} {B : Heap → Prop} {post : Heap → Option Value → Heap → Prop} {free : Addr → Prop} (hM : RM t0 y b maxL ret fr lo mc ms As B post free) (hB : B H)
    (na : Nat) (hna : As.length = na)
    (hw : [Cond.methodLink own idx y, .code y b maxL ret, .initialized y.cls, .static y].all (fun w => decide (w ∈ rf_W)) = true)
    (hd : y.cls ≠ "java/lang/invoke/MethodHandle" ∧ y.cls ≠ "java/lang/invoke/VarHandle" ∧ (parseMethodDescriptor y.desc).map (fun d => d.parameters.length) = some na) (hR : fr + 1 ≤ R.frames ∧ 8 + (maxL + 11) + lo ≤ R.locals) (hcat : (rest.map fun v => v.category).sum ≤ 8) (hf : cells + mc ≤ R.cells ∧ slots + ms ≤ R.slots) (hdg : decode cc pc = .ok (.invokestatic idx, 3)) {st : List Value} (hst : st = As.reverse ++ rest)
    (kk : ∀ (v : Option Value) (H1 : Heap) (L : List Loc), post H v H1 → (∀ x ∈ L, free x.base) → W p launch0 e R s m args below meth c H1 (locs ++ L) (cells + mc) (slots + ms) Q (F0 m (pc + 3) ls (v.toList ++ rest))) : W p launch0 e R s m args below meth c H locs cells slots Q (F0 m pc ls st) := by
  simp only [List.all_cons, List.all_nil, Bool.and_true, Bool.and_eq_true, decide_eq_true_eq] at hw
  obtain ⟨w1, w2, w3, w4⟩ := hw
  subst hst
  refine rg_call (W.runS (Ts := []) ⟨hx, hb, hml, hown, fun w h => absurd h List.not_mem_nil⟩ hM ⟨rg_cb hk hW w1 w2 w3 hd hR, rw_at hk hW w4 _⟩ ⟨rg_blind, fun U hU hU2 => ⟨rfl, State.WarmedH.trans hW hU2, by rw [hU]; exact hB⟩⟩ rfl hna hsize rfl (by show 2 * 0 + _ ≤ 8; omega) hdg hf) (fun st o t h => h) kk
/-- invokespecial of a constructor -/
theorem rg_ci (hk : rK t0) (hW : t0.WarmedH s.vm) (hx : p.tables.exec = Jvm.exec) (hb : c.code = cc) {nL : Nat} (hml : c.maxLocals = nL) (hsize : ls.size = nL) {own : String} (hown : s.vm.findClass own = some m.cls) {idx : Nat} {y : MethodName} {b : ByteArray} {maxL : Nat} {fr lo mc ms a : Nat} {As : List Value} {B : Heap → Prop} {post : Heap → Option Value → Heap → Prop} {free : Addr → Prop} (hM : RM t0 y b maxL none fr lo mc ms (.ref a :: As) B post free) (hB : B H) (hy1 : y.name = "<init>")
    (na : Nat) (hna : As.length = na)
    (hw : [Cond.methodLink own idx y, .code y b maxL none, .initialized y.cls, .instanceMethod y].all (fun w => decide (w ∈ rf_W)) = true)
    (hd : y.cls ≠ "java/lang/invoke/MethodHandle" ∧ y.cls ≠ "java/lang/invoke/VarHandle" ∧ (parseMethodDescriptor y.desc).map (fun d => d.parameters.length) = some na) (hR : fr + 1 ≤ R.frames ∧ 8 + (maxL + 11) + lo ≤ R.locals) (hcat : (rest.map fun v => v.category).sum ≤ 8) (hf : cells + mc ≤ R.cells ∧ slots + ms ≤ R.slots) (hdg : decode cc pc = .ok (.invokespecial idx, 3)) {st : List Value} (hst : st = As.reverse ++ .ref a :: rest)
    (kk : ∀ (v : Option Value) (H1 : Heap) (L : List Loc), post H v H1 → (∀ x ∈ L, free x.base) → W p launch0 e R s m args below meth c H1 (locs ++ L) (cells + mc) (slots + ms) Q (F0 m (pc + 3) ls (v.toList ++ rest))) : W p launch0 e R s m args below meth c H locs cells slots Q (F0 m pc ls st) := by
  simp only [List.all_cons, List.all_nil, Bool.and_true, Bool.and_eq_true, decide_eq_true_eq] at hw
  obtain ⟨w1, w2, w3, w4⟩ := hw
  subst hst
  refine rg_call (W.runI (Ts := []) ⟨hx, hb, hml, hown, fun w h => absurd h List.not_mem_nil⟩ hM ⟨rg_cb hk hW w1 w2 w3 hd hR, hy1, rw_at hk hW w4 _⟩ ⟨rg_blind, fun U hU hU2 => ⟨rfl, State.WarmedH.trans hW hU2, by rw [hU]; exact hB⟩⟩ rfl hna hsize rfl (by show 2 * 0 + _ ≤ 8; omega) hdg hf) (fun st o t h => h) kk
end RF
