/-! THE SCRIPT, AND RUNS REDUCED BY THE KERNEL: a state is brought to its constructors behind each step -/
def rf_ints (k : Nat) : List Int32 := [0, 0, 0, 0, 5, 0, 11, 0, 0, 1, 999, 0] ++ (List.replicate k ([41, 0, 5, 0, 0, 0] : List Int32)).flatten
def rf_scr (k : Nat) : Array Value := ⟨(rf_ints k).map Value.int⟩
def rf_S (k : Nat) : State := start1.aboutOf (rf_scr k)
def rf_fN {β : Type} (n : Nat) (k : Nat → β) : β := match n with
  | 0 => k 0
  | m + 1 => k (m + 1)
theorem rf_fN_eq {β : Type} (n : Nat) (k : Nat → β) : rf_fN n k = k n := by cases n <;> rfl
def rf_fI {β : Type} (x : Int32) (k : Int32 → β) : β := rf_fN x.toUInt32.toNat fun n => k (UInt32.ofNat n).toInt32
theorem rf_fI_eq {β : Type} (x : Int32) (k : Int32 → β) : rf_fI x k = k x := by
  unfold rf_fI
  rw [rf_fN_eq]
  congr 1
  rw [UInt32.ofNat_toNat]
  rfl
def rf_fJ {β : Type} (x : Int64) (k : Int64 → β) : β := rf_fN x.toUInt64.toNat fun n => k (UInt64.ofNat n).toInt64
theorem rf_fJ_eq {β : Type} (x : Int64) (k : Int64 → β) : rf_fJ x k = k x := by
  unfold rf_fJ
  rw [rf_fN_eq]
  congr 1
  rw [UInt64.ofNat_toNat]
  rfl
def rf_fV {β : Type} (v : Value) (k : Value → β) : β := match v with
  | .int x => rf_fI x fun y => k (.int y)
  | .long x => rf_fJ x fun y => k (.long y)
  | .float x => k (.float x)
  | .double x => k (.double x)
  | .null => k .null
  | .ref a => rf_fN a fun b => k (.ref b)
  | .retAddr a => k (.retAddr a)
theorem rf_fV_eq {β : Type} (v : Value) (k : Value → β) : rf_fV v k = k v := by
  cases v <;> simp only [rf_fV, rf_fI_eq, rf_fJ_eq, rf_fN_eq]
def rf_fZ {β : Type} (v : Slot) (k : Slot → β) : β := match v with
  | .unset => k .unset
  | .second => k .second
  | .val v => rf_fV v fun w => k (.val w)
theorem rf_fZ_eq {β : Type} (v : Slot) (k : Slot → β) : rf_fZ v k = k v := by
  cases v <;> simp only [rf_fZ, rf_fV_eq]
/-- a list, each of its elements by 'f' -/
def rf_fL {α β : Type} (f : α → (α → β) → β) (l : List α) (k : List α → β) : β := match l with
  | [] => k []
  | a :: r => f a fun b => rf_fL f r fun q => k (b :: q)
theorem rf_fL_eq {α β : Type} {f : α → (α → β) → β} (hf : ∀ a k, f a k = k a) (l : List α) : ∀ k : List α → β, rf_fL f l k = k l := by
  induction l with
  | nil => intro k; rfl
  | cons a r ih => intro k; simp only [rf_fL, hf, ih]
def rf_fA {α β : Type} (f : α → (α → β) → β) (l : Array α) (k : Array α → β) : β := match l with
  | ⟨q⟩ => rf_fL f q fun r => k ⟨r⟩
theorem rf_fA_eq {α β : Type} {f : α → (α → β) → β} (hf : ∀ a k, f a k = k a) (l : Array α) (k : Array α → β) : rf_fA f l k = k l := by
  cases l; simp only [rf_fA, rf_fL_eq hf]
def rf_fF {β : Type} (f : Frame) (k : Frame → β) : β := match f with
  | .java ⟨⟨c, i⟩, pc, ls, st, lk, en, mr⟩ => rf_fN c fun c => rf_fN i fun i => rf_fN pc fun pc => rf_fA rf_fZ ls fun ls => rf_fL rf_fV st fun st => k (.java ⟨⟨c, i⟩, pc, ls, st, lk, en, mr⟩)
  | .invoking ⟨c, i⟩ as => rf_fN c fun c => rf_fN i fun i => rf_fA rf_fV as fun as => k (.invoking ⟨c, i⟩ as)
  | f => k f
theorem rf_fF_eq {β : Type} (f : Frame) (k : Frame → β) : rf_fF f k = k f := by
  unfold rf_fF
  split
  · simp only [rf_fN_eq, rf_fA_eq (f := rf_fZ) (fun a k => rf_fZ_eq a k), rf_fL_eq (f := rf_fV) (fun a k => rf_fV_eq a k)]
  · simp only [rf_fN_eq, rf_fA_eq (f := rf_fV) (fun a k => rf_fV_eq a k)]
  · rfl
/-- the two innermost frames -/
def rf_fFs {β : Type} (l : List Frame) (k : List Frame → β) : β := match l with
  | a :: b :: r => rf_fF a fun a => rf_fF b fun b => k (a :: b :: r)
  | l => k l
theorem rf_fFs_eq {β : Type} (l : List Frame) (k : List Frame → β) : rf_fFs l k = k l := by
  unfold rf_fFs
  split
  · simp only [rf_fF_eq]
  · rfl
def rf_fC {β : Type} (c : Cell) (k : Cell → β) : β := match c with
  | ⟨cls, slots, mon, hash, vx⟩ => rf_fN cls fun cls => k ⟨cls, slots, mon, hash, vx⟩
theorem rf_fC_eq {β : Type} (c : Cell) (k : Cell → β) : rf_fC c k = k c := by
  cases c; simp only [rf_fC, rf_fN_eq]
def rf_fT {β : Type} (t : Thread) (k : Thread → β) : β := match t with
  | ⟨fs, .runnable, o, false, pm, wk, mo, sc, sb⟩ => rf_fFs fs fun fs => k ⟨fs, .runnable, o, false, pm, wk, mo, sc, sb⟩
  | t => k t
theorem rf_fT_eq {β : Type} (t : Thread) (k : Thread → β) : rf_fT t k = k t := by
  unfold rf_fT
  split
  · simp only [rf_fFs_eq]
  · rfl
def rf_fM {β : Type} (vx : Vm) (k : Vm → β) : β := match vx with
  | v@(.mk ..) => k v
theorem rf_fM_eq {β : Type} (vx : Vm) (k : Vm → β) : rf_fM vx k = k vx := by cases vx; rfl
def rf_fW {β : Type} (w : World) (k : World → β) : β := match w with
  | v@(.mk ..) => k v
theorem rf_fW_eq {β : Type} (w : World) (k : World → β) : rf_fW w k = k w := by cases w; rfl
def rf_fD {β : Type} (w : Drawn) (k : Drawn → β) : β := match w with
  | v@(.mk ..) => k v
theorem rf_fD_eq {β : Type} (w : Drawn) (k : Drawn → β) : rf_fD w k = k w := by cases w; rfl
def rf_fQ {β : Type} (q : Status) (k : Status → β) : β := match q with
  | .running => k .running
  | q => k q
theorem rf_fQ_eq {β : Type} (q : Status) (k : Status → β) : rf_fQ q k = k q := by cases q <;> rfl
def rf_fS {β : Type} (s : State) (k : State → β) : β := match s with
  | ⟨h, vx, ⟨[t]⟩, cur, w, d, now, su, st⟩ => rf_fA rf_fC h fun h => rf_fM vx fun vx => rf_fT t fun t => rf_fN cur fun cur => rf_fW w fun w => rf_fD d fun d => rf_fN now fun now => rf_fN su fun su => rf_fQ st fun st => k ⟨h, vx, ⟨[t]⟩, cur, w, d, now, su, st⟩
  | s => k s
theorem rf_fS_eq {β : Type} (s : State) (k : State → β) : rf_fS s k = k s := by
  unfold rf_fS
  split
  · simp only [rf_fA_eq (f := rf_fC) (fun a k => rf_fC_eq a k), rf_fM_eq, rf_fT_eq, rf_fN_eq, rf_fW_eq, rf_fD_eq, rf_fQ_eq]
  · rfl
/-- the frame that the witness's start has below the law -/
def rf_bot : Frame → Bool
  | .native ⟨⟨0, 0⟩, ⟨[]⟩, 0, ⟨[]⟩, false, none, none, 0⟩ => true
  | _ => false
theorem rf_bot_eq {f : Frame} (h : rf_bot f = true) : [f] = Lib.HandBits.below0 := by
  unfold rf_bot at h
  split at h
  · rfl
  · cases h
def rf_lst : List Frame → Bool
  | [] => false
  | [b] => rf_bot b
  | _ :: b :: r => rf_lst (b :: r)
theorem rf_lst_eq : ∀ l : List Frame, rf_lst l = true → ∃ a, l = a ++ Lib.HandBits.below0
  | [], h => by simp [rf_lst] at h
  | [b], h => ⟨[], by rw [List.nil_append]; exact rf_bot_eq (by simpa [rf_lst] using h)⟩
  | a :: b :: r, h => by
    obtain ⟨q, hq⟩ := rf_lst_eq (b :: r) (by simpa [rf_lst] using h)
    exact ⟨a :: q, by rw [hq]; rfl⟩
def rf_top : List Frame → Bool
  | .java _ :: r => rf_lst r
  | .native _ :: r => rf_lst r
  | .invoking _ _ :: r => rf_lst r
  | _ => false
theorem rf_top_eq {s : State} (h : rf_top s.frames = true) : Within s Lib.HandBits.below0 := by
  unfold rf_top at h
  split at h
  · rename_i f r hf
    obtain ⟨q, hq⟩ := rf_lst_eq _ h
    exact ⟨.java f :: q, by rw [hf, hq]; rfl, by simp, fun a h => by cases h⟩
  · rename_i f r hf
    obtain ⟨q, hq⟩ := rf_lst_eq _ h
    exact ⟨.native f :: q, by rw [hf, hq]; rfl, by simp, fun a h => by cases h⟩
  · rename_i f g r hf
    obtain ⟨q, hq⟩ := rf_lst_eq _ h
    exact ⟨.invoking f g :: q, by rw [hf, hq]; rfl, by simp, fun a h => by cases h⟩
  · cases h
def rf_ok (s : State) : Bool := match s with
  | ⟨_, _, ⟨[⟨fs, .runnable, _, false, _, _, _, _, _⟩]⟩, 0, _, _, _, _, .running⟩ => rf_top fs
  | _ => false
theorem rf_ok_eq {s : State} (h : rf_ok s = true) : Within s Lib.HandBits.below0 ∧ s.status = .running ∧ s.curStatus? = some .runnable ∧ s.alone = true := by
  unfold rf_ok at h
  split at h
  · exact ⟨rf_top_eq h, rfl, rfl, rfl⟩
  · cases h
/-- a long array of numbers: made at once (the machine looks at each of its places) -/
def rf_arr (e : Env) (s : State) : Option State :=
  match s.frames with
  | .java f :: _ =>
    match f.stack with
    | .int n :: rest =>
      match decide (100 ≤ n.toNatClampNeg) with
      | false => none
      | true =>
        match s.code? f.method with
        | some c =>
          match decode c.code f.pc with
          | .ok (.newarray t, 2) =>
            match s.vm.findClass ("[" ++ (newarray.typeOf t).toString) with
            | some cA =>
              match s.vm.classes[cA]? with
              | some k =>
                match k.kind with
                | .array _ ty =>
                  if ty = newarray.typeOf t ∧ ¬ n < 0 ∧ ¬ n.toNatClampNeg > e.platform.arrayLengthLimit ∧ ¬ n.toNatClampNeg * componentBytes (newarray.typeOf t) > e.platform.maxHeapBytes ∧ s.heap.size < e.platform.maxCells ∧ s.slotsUsed + n.toNatClampNeg ≤ e.platform.maxSlots ∧ ((s.vm.classes[f.method.cls]?).any fun q => plainName q.name) = true then
                    some ((s.pushCell { cls := cA, slots := Array.replicate n.toNatClampNeg (defaultValue (newarray.typeOf t)), vm := .none }).setTop { f with pc := f.pc + 2, stack := .ref s.heap.size :: rest })
                  else none
                | _ => none
              | none => none
            | none => none
          | _ => none
        | none => none
    | _ => none
  | _ => none
theorem rf_at {s : State} {f : JFrame} {r : List Frame} {c : Code} (h : rf_ok s = true) (hf : s.frames = .java f :: r) (hc : s.code? f.method = some c) (hp : ((s.vm.classes[f.method.cls]?).any fun q => plainName q.name) = true) : At s f.method c Lib.HandBits.below0 := by
  obtain ⟨⟨a, h1, h2, h3⟩, g2, g3, g4⟩ := rf_ok_eq h
  refine ⟨?_, ?_, g2, g3, g4, hc, ?_⟩
  · simp [State.topJava?, hf]
  · rw [h1]
    cases a with
    | nil => exact absurd rfl h2
    | cons x q => exact ⟨q, rfl⟩
  · intro k hk
    rw [hk] at hp
    exact plain_of_name (by simpa using hp)
theorem rf_arr_eq {p : Program} {e : Env} {s s' : State} (h : rf_ok s = true) (ha : rf_arr e s = some s') : Steps p.tables e Lib.HandBits.below0 s s' := by
  unfold rf_arr at ha
  split at ha
  · rename_i f r hf
    split at ha
    · rename_i n rest hst
      split at ha
      · cases ha
      · split at ha
        · rename_i c hc
          split at ha
          · rename_i t hd
            split at ha
            · rename_i cA hfc
              split at ha
              · rename_i k hk
                split at ha
                · rename_i comp ty hkind
                  split at ha
                  · rename_i hq
                    obtain ⟨q1, q2, q3, q4, q5, q6, q7⟩ := hq
                    subst q1
                    have A := rf_at h hf hc q7
                    have hex : p.tables.exec = Jvm.exec := by cases p <;> rfl
                    have hself : s.setTop f = s := State.setTop_self (by simp [State.topJava?, hf])
                    cases ha
                    have key : ∀ target, Steps p.tables e Lib.HandBits.below0 ((s.pushCell { cls := cA, slots := Array.replicate n.toNatClampNeg (defaultValue (newarray.typeOf t)), vm := .none }).setTop { f with pc := f.pc + 2, stack := .ref s.heap.size :: rest }) target → Steps p.tables e Lib.HandBits.below0 (s.setTop f) target := by
                      intro target hrest
                      jvm_step A [hex, hd, newarray.wp_ready (e := e) (s := s) (f := f) (c := cA) (k := k) (comp := comp) A.top hfc hk hkind hst q2 q3 q4]
                      exact ⟨q5, q6, hrest⟩
                    have h9 := key _ (Steps.refl _)
                    rwa [hself] at h9
                  · cases ha
                · cases ha
              · cases ha
            · cases ha
          · cases ha
        · cases ha
    · cases ha
  · cases ha
def rf_go (tb : Tables) (e : Env) : Nat → State → (State → Bool) → Bool
  | 0, s, K => K s
  | n + 1, s, K => match rf_ok s with
    | true => match rf_arr e s with
      | some s => rf_fS s fun s => rf_go tb e n s K
      | none => rf_fS (stepThread tb e s).1 fun s => rf_go tb e n s K
    | false => false
theorem rf_go_eq {p : Program} {e : Env} {K : State → Bool} : ∀ (n : Nat) (s : State), rf_go p.tables e n s K = true → ∃ t, Steps p.tables e Lib.HandBits.below0 s t ∧ K t = true := by
  intro n
  induction n with
  | zero => intro s h; exact ⟨s, Steps.refl s, h⟩
  | succ n ih =>
    intro s h
    unfold rf_go at h
    split at h
    · rename_i hq
      split at h
      · rename_i s' hs
        rw [rf_fS_eq] at h
        obtain ⟨t, g1, g2⟩ := ih _ h
        exact ⟨t, (rf_arr_eq hq hs).trans g1, g2⟩
      · rw [rf_fS_eq] at h
        obtain ⟨t, g1, g2⟩ := ih _ h
        obtain ⟨h1, h2, h3, h4⟩ := rf_ok_eq hq
        have st : Steps p.tables e Lib.HandBits.below0 s (stepThread p.tables e s).1 := by
          refine ⟨1, by simp only [stepsAlone, h2, h3, h4], fun k hk => ?_⟩
          have : k = 0 := by omega
          subst this; exact h1
        exact ⟨t, st.trans g1, g2⟩
    · cases h
