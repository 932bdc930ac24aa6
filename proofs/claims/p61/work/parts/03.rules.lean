/-! RULES OVER CELLS -/
def rf_good : Cond → Bool
  | .arrayClass _ => true
  | w => w.onTables && (w.keeps || w.keepsH)
def rb_fld (U : State) (q : rf_Fd) : Bool := match U.fieldFound? q.1 q.2.1 q.2.2.1 with
  | some (cf, _, _, f) => (cf == q.2.2.2.2.1) && (!f.isStatic && ((f.slot == q.2.2.2.1) && ((hasFlag f.accessFlags Acc.final == q.2.2.2.2.2.1) && decide (f.type = q.2.2.2.2.2.2))))
  | none => false
def rb_cls (U : State) (q : String × Nat × List FieldType) : Bool := decide (U.vm.findClass q.1 = some q.2.1) && match U.vm.classes[q.2.1]? with
  | some k => (match k.kind with | .ordinary => true | _ => false) && decide (k.instanceTypes.toList = q.2.2)
  | none => false
def rb_arr (U : State) (q : Nat × FieldType) : Bool := match U.vm.classes[q.1]? with
  | some k => (match k.kind with | .array _ t => decide (t = q.2) | _ => false)
  | none => false
/-- where ArrayList's static row lies -/
def rb_sta (U : State) : Bool := match U.fieldFound? "java/util/ArrayList" "DEFAULTCAPACITY_EMPTY_ELEMENTDATA" "[Ljava/lang/Object;" with
  | some (_, k, _, f) => f.isStatic && (decide (k.init = .initialized) && (decide (k.statics = some 6) && (f.slot == 3)))
  | none => false
/-- what is known of the tables -/
def rK (t0 : State) : Prop := (∀ w ∈ rf_W, rf_good w = true ∧ w.before #[] t0 = true) ∧ (∀ q ∈ rf_FL, rb_fld t0 q = true) ∧ (∀ q ∈ rf_CL, rb_cls t0 q = true) ∧ (∀ q ∈ rf_AL, rb_arr t0 q = true) ∧ (rb_sta t0 = true ∧ t0.vm.findClass "[I" = some 49) ∧ ∀ w ∈ rf_X, w.onTables = true ∧ w.before #[] t0 = true
theorem rg_word {s U : State} (hW : s.WarmedH U.vm) {w : Cond} (hg : rf_good w = true) {a a' : Array Value} (h : w.before a s = true) : w.before a' U = true := by
  by_cases hz : (w.onTables && w.keeps) = true
  · exact word_at hW (Or.inl hz) h
  · by_cases hz2 : ∃ ty, w = .arrayClass ty
    · exact word_at hW (Or.inr hz2) h
    · have hq : w.onTables = true ∧ w.keepsH = true := by
        cases w <;> simp_all [rf_good]
      have h1 := Cond.onTables_warmH (T := U) (args' := a') hW hq.1 hq.2 h
      exact h1
theorem rw_at {t0 s : State} (hk : rK t0) (hW : t0.WarmedH s.vm) {w : Cond} (h : w ∈ rf_W) (a : Array Value) : w.before a s = true := rg_word hW (hk.1 w h).1 (hk.1 w h).2
theorem rw_up {t0 s : State} (hk : rK t0) (hW : t0.WarmedH s.vm) {w : Cond} (h : w ∈ rf_W) : ∀ (a : Array Value) (U : State), s.WarmedH U.vm → w.before a U = true :=
  fun a U hU => rw_at hk (State.WarmedH.trans hW hU) h a
theorem rg_fld {t0 s : State} (hk : rK t0) (hW : t0.WarmedH s.vm) {q : rf_Fd} (h : q ∈ rf_FL) : ∃ (k : Class) (i : Nat) (f : Field), s.fieldFound? q.1 q.2.1 q.2.2.1 = some (q.2.2.2.2.1, k, i, f) ∧ f.isStatic = false ∧ f.slot = q.2.2.2.1 ∧ hasFlag f.accessFlags Acc.final = q.2.2.2.2.2.1 ∧ f.type = q.2.2.2.2.2.2 := by
  have h1 := hk.2.1 q h
  unfold rb_fld at h1
  split at h1
  · rename_i cf k i f hf
    simp only [Bool.and_eq_true, beq_iff_eq, Bool.not_eq_true', decide_eq_true_eq] at h1
    obtain ⟨k', hk', -⟩ := State.fieldFound?_setVm (s := t0) (hW.alike) hf
    refine ⟨k', i, f, ?_, h1.2.1, h1.2.2.1, h1.2.2.2.1, h1.2.2.2.2⟩
    rw [← h1.1]
    simpa only [State.fieldFound?, State.vm_setVm] using hk'
  · cases h1
theorem rg_cls {t0 s : State} (hk : rK t0) (hW : t0.WarmedH s.vm) {q : String × Nat × List FieldType} (h : q ∈ rf_CL) : s.vm.findClass q.1 = some q.2.1 ∧ ∃ k : Class, s.vm.classes[q.2.1]? = some k ∧ k.kind = .ordinary ∧ k.instanceTypes.toList = q.2.2 := by
  have h1 := hk.2.2.1 q h
  unfold rb_cls at h1
  simp only [Bool.and_eq_true, decide_eq_true_eq] at h1
  obtain ⟨h1, h2⟩ := h1
  refine ⟨by rw [hW.alike.findClass]; exact h1, ?_⟩
  split at h2
  · rename_i k hkc
    simp only [Bool.and_eq_true, decide_eq_true_eq] at h2
    obtain ⟨k', hk', he⟩ := hW.alike.2.2 _ _ hkc
    refine ⟨k', hk', ?_, by rw [he]; exact h2.2⟩
    rw [he]
    have h3 := h2.1
    show k.kind = .ordinary
    split at h3
    · assumption
    · cases h3
  · cases h2
theorem rg_arr {t0 s : State} (hk : rK t0) (hW : t0.WarmedH s.vm) {q : Nat × FieldType} (h : q ∈ rf_AL) : ∃ (k : Class) (comp : ClassId), s.vm.classes[q.1]? = some k ∧ k.kind = .array comp q.2 := by
  have h1 := hk.2.2.2.1 q h
  unfold rb_arr at h1
  split at h1
  · rename_i k hkc
    obtain ⟨k', hk', he⟩ := hW.alike.2.2 _ _ hkc
    split at h1
    · rename_i comp t hkd
      have e : t = q.2 := of_decide_eq_true h1
      exact ⟨k', comp, hk', by rw [he, ← e]; exact hkd⟩
    · cases h1
  · cases h1
/-- a cell: its class's number, how many slots, what some of them hold -/
def rc_at (H : Heap) (a k n : Nat) (vs : List (Nat × Value)) : Prop := ∃ c : Cell, H[a]? = some c ∧ c.cls = k ∧ c.vm = .none ∧ c.slots.size = n ∧ ∀ q ∈ vs, c.slots[q.1]? = some q.2
theorem rc_at.kept {H H1 : Heap} {a k n : Nat} {vs : List (Nat × Value)} (h : rc_at H a k n vs) (e : H1[a]? = H[a]?) : rc_at H1 a k n vs := by
  obtain ⟨c, h1, h2⟩ := h
  exact ⟨c, e.trans h1, h2⟩
theorem rc_at.lt {H : Heap} {a k n : Nat} {vs : List (Nat × Value)} (h : rc_at H a k n vs) : a < H.size := by
  obtain ⟨c, h1, -⟩ := h
  exact (Array.getElem?_eq_some_iff.mp h1).1
def rP (t0 : State) (av : List Value) (B : Heap → Prop) : Array Value → State → Prop := fun v U => v = av.toArray ∧ t0.WarmedH U.vm ∧ B U.heap
def rQ (post : Heap → Option Value → Heap → Prop) : Array Value → State → Outcome → State → Prop := fun _ st o t => ∃ v, o = .returned v ∧ post st.heap v t.heap
abbrev rRm (fr lo mc ms : Nat) : Room := { frames := fr, cells := mc, slots := ms, locals := lo }
/-- a contract that speaks of cells alone, behind the state t0 -/
def RM (t0 : State) (y : MethodName) (b : ByteArray) (maxL : Nat) (ret : Option FieldType) (fr lo mc ms : Nat) (av : List Value) (B : Heap → Prop) (post : Heap → Option Value → Heap → Prop) (free : Addr → Prop) : Prop :=
  Met launch0 y [.code y b maxL ret] (rRm fr lo mc ms) (rP t0 av B) (rQ post) mc ms free
theorem rg_body {t0 : State} {y : MethodName} {b : ByteArray} {maxL : Nat} {ret : Option FieldType} {fr lo mc ms : Nat} {av : List Value} {B : Heap → Prop} {post : Heap → Option Value → Heap → Prop} {free : Addr → Prop} (hy : plainName y.cls = true) (hn : (lg_sl av).length ≤ maxL)
    (h : ∀ (p : Program) (e : Env) (s : State) (m : MethodId) (below : List Frame) (meth : Method) (c : Code) (ls : Array Slot), p.tables.exec = Jvm.exec → c.code = b → c.maxLocals = maxL → meth.sig.returnType = ret → meth.locks = false → s.vm.findClass y.cls = some m.cls → meth.name = y.name → t0.WarmedH s.vm → B s.heap → lv_has ls maxL (lv_args 0 av) →
      W p launch0 e (rRm fr lo mc ms) s m av.toArray below meth c s.heap [] 0 0 (MQ below (rQ post) av.toArray s mc ms free) (F0 m 0 ls [])) : RM t0 y b maxL ret fr lo mc ms av B post free := by
  refine Met.ofW (cc := b) (maxL := maxL) (ret := ret) hy rfl ?_
  intro p e s m args below meth c s₁ BL hml hv
  obtain ⟨rfl, hW, hB⟩ := hv
  have hl := lv_entry av (n := maxL) hn
  have key := h p e s m below meth c _ BL.exec BL.bytes hml BL.returns BL.notSynchronized (findClass_of_methodNamed BL.named) (name_of_methodNamed BL.named BL.method).1 hW hB hl
  rw [lg_entry_eq]
  exact key
