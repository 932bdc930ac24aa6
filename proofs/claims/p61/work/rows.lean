section
/-! THE SCRIPT, AND RUNS REDUCED BY THE KERNEL: a state is brought to its constructors behind each step -/
def rf_ints (k : Nat) : List Int32 := [0, 0, 0, 0, 5, 0, 11, 0, 0, 1, 999, 0] ++ (List.replicate k ([41, 0, 5, 0, 0, 0] : List Int32)).flatten
def rf_scr (k : Nat) : Array Value := ⟨(rf_ints k).map Value.int⟩
def rf_S (k : Nat) : State := start1.aboutOf (rf_scr k)
def rf_fN {β : Type} (n : Nat) (k : Nat → β) : β := match n with
  | 0 => k 0
  | m + 1 => k (m + 1)
theorem rf_fN_eq {β : Type} (n : Nat) (k : Nat → β) : rf_fN n k = k n := by cases n <;> rfl
def rf_fI {β : Type} (x : Int32) (k : Int32 → β) : β := rf_fN x.toUInt32.toNat fun n => k (UInt32.ofNat n).toInt32
theorem rf_fI_eq {β : Type} (x : Int32) (k : Int32 → β) : rf_fI x k = k x := by
  unfold rf_fI
  rw [rf_fN_eq]
  congr 1
  rw [UInt32.ofNat_toNat]
  rfl
def rf_fJ {β : Type} (x : Int64) (k : Int64 → β) : β := rf_fN x.toUInt64.toNat fun n => k (UInt64.ofNat n).toInt64
theorem rf_fJ_eq {β : Type} (x : Int64) (k : Int64 → β) : rf_fJ x k = k x := by
  unfold rf_fJ
  rw [rf_fN_eq]
  congr 1
  rw [UInt64.ofNat_toNat]
  rfl
def rf_fV {β : Type} (v : Value) (k : Value → β) : β := match v with
  | .int x => rf_fI x fun y => k (.int y)
  | .long x => rf_fJ x fun y => k (.long y)
  | .float x => k (.float x)
  | .double x => k (.double x)
  | .null => k .null
  | .ref a => rf_fN a fun b => k (.ref b)
  | .retAddr a => k (.retAddr a)
theorem rf_fV_eq {β : Type} (v : Value) (k : Value → β) : rf_fV v k = k v := by
  cases v <;> simp only [rf_fV, rf_fI_eq, rf_fJ_eq, rf_fN_eq]
def rf_fZ {β : Type} (v : Slot) (k : Slot → β) : β := match v with
  | .unset => k .unset
  | .second => k .second
  | .val v => rf_fV v fun w => k (.val w)
theorem rf_fZ_eq {β : Type} (v : Slot) (k : Slot → β) : rf_fZ v k = k v := by
  cases v <;> simp only [rf_fZ, rf_fV_eq]
/-- a list, each of its elements by 'f' -/
def rf_fL {α β : Type} (f : α → (α → β) → β) (l : List α) (k : List α → β) : β := match l with
  | [] => k []
  | a :: r => f a fun b => rf_fL f r fun q => k (b :: q)
theorem rf_fL_eq {α β : Type} {f : α → (α → β) → β} (hf : ∀ a k, f a k = k a) (l : List α) : ∀ k : List α → β, rf_fL f l k = k l := by
  induction l with
  | nil => intro k; rfl
  | cons a r ih => intro k; simp only [rf_fL, hf, ih]
def rf_fA {α β : Type} (f : α → (α → β) → β) (l : Array α) (k : Array α → β) : β := match l with
  | ⟨q⟩ => rf_fL f q fun r => k ⟨r⟩
theorem rf_fA_eq {α β : Type} {f : α → (α → β) → β} (hf : ∀ a k, f a k = k a) (l : Array α) (k : Array α → β) : rf_fA f l k = k l := by
  cases l; simp only [rf_fA, rf_fL_eq hf]
def rf_fF {β : Type} (f : Frame) (k : Frame → β) : β := match f with
  | .java ⟨⟨c, i⟩, pc, ls, st, lk, en, mr⟩ => rf_fN c fun c => rf_fN i fun i => rf_fN pc fun pc => rf_fA rf_fZ ls fun ls => rf_fL rf_fV st fun st => k (.java ⟨⟨c, i⟩, pc, ls, st, lk, en, mr⟩)
  | .invoking ⟨c, i⟩ as => rf_fN c fun c => rf_fN i fun i => rf_fA rf_fV as fun as => k (.invoking ⟨c, i⟩ as)
  | f => k f
theorem rf_fF_eq {β : Type} (f : Frame) (k : Frame → β) : rf_fF f k = k f := by
  unfold rf_fF
  split
  · simp only [rf_fN_eq, rf_fA_eq (f := rf_fZ) (fun a k => rf_fZ_eq a k), rf_fL_eq (f := rf_fV) (fun a k => rf_fV_eq a k)]
  · simp only [rf_fN_eq, rf_fA_eq (f := rf_fV) (fun a k => rf_fV_eq a k)]
  · rfl
/-- the two innermost frames -/
def rf_fFs {β : Type} (l : List Frame) (k : List Frame → β) : β := match l with
  | a :: b :: r => rf_fF a fun a => rf_fF b fun b => k (a :: b :: r)
  | l => k l
theorem rf_fFs_eq {β : Type} (l : List Frame) (k : List Frame → β) : rf_fFs l k = k l := by
  unfold rf_fFs
  split
  · simp only [rf_fF_eq]
  · rfl
def rf_fC {β : Type} (c : Cell) (k : Cell → β) : β := match c with
  | ⟨cls, slots, mon, hash, vx⟩ => rf_fN cls fun cls => k ⟨cls, slots, mon, hash, vx⟩
theorem rf_fC_eq {β : Type} (c : Cell) (k : Cell → β) : rf_fC c k = k c := by
  cases c; simp only [rf_fC, rf_fN_eq]
def rf_fT {β : Type} (t : Thread) (k : Thread → β) : β := match t with
  | ⟨fs, .runnable, o, false, pm, wk, mo, sc, sb⟩ => rf_fFs fs fun fs => k ⟨fs, .runnable, o, false, pm, wk, mo, sc, sb⟩
  | t => k t
theorem rf_fT_eq {β : Type} (t : Thread) (k : Thread → β) : rf_fT t k = k t := by
  unfold rf_fT
  split
  · simp only [rf_fFs_eq]
  · rfl
def rf_fM {β : Type} (vx : Vm) (k : Vm → β) : β := match vx with
  | v@(.mk ..) => k v
theorem rf_fM_eq {β : Type} (vx : Vm) (k : Vm → β) : rf_fM vx k = k vx := by cases vx; rfl
def rf_fW {β : Type} (w : World) (k : World → β) : β := match w with
  | v@(.mk ..) => k v
theorem rf_fW_eq {β : Type} (w : World) (k : World → β) : rf_fW w k = k w := by cases w; rfl
def rf_fD {β : Type} (w : Drawn) (k : Drawn → β) : β := match w with
  | v@(.mk ..) => k v
theorem rf_fD_eq {β : Type} (w : Drawn) (k : Drawn → β) : rf_fD w k = k w := by cases w; rfl
def rf_fQ {β : Type} (q : Status) (k : Status → β) : β := match q with
  | .running => k .running
  | q => k q
theorem rf_fQ_eq {β : Type} (q : Status) (k : Status → β) : rf_fQ q k = k q := by cases q <;> rfl
def rf_fS {β : Type} (s : State) (k : State → β) : β := match s with
  | ⟨h, vx, ⟨[t]⟩, cur, w, d, now, su, st⟩ => rf_fA rf_fC h fun h => rf_fM vx fun vx => rf_fT t fun t => rf_fN cur fun cur => rf_fW w fun w => rf_fD d fun d => rf_fN now fun now => rf_fN su fun su => rf_fQ st fun st => k ⟨h, vx, ⟨[t]⟩, cur, w, d, now, su, st⟩
  | s => k s
theorem rf_fS_eq {β : Type} (s : State) (k : State → β) : rf_fS s k = k s := by
  unfold rf_fS
  split
  · simp only [rf_fA_eq (f := rf_fC) (fun a k => rf_fC_eq a k), rf_fM_eq, rf_fT_eq, rf_fN_eq, rf_fW_eq, rf_fD_eq, rf_fQ_eq]
  · rfl
/-- the frame that the witness's start has below the law -/
def rf_bot : Frame → Bool
  | .native ⟨⟨0, 0⟩, ⟨[]⟩, 0, ⟨[]⟩, false, none, none, 0⟩ => true
  | _ => false
theorem rf_bot_eq {f : Frame} (h : rf_bot f = true) : [f] = Lib.HandBits.below0 := by
  unfold rf_bot at h
  split at h
  · rfl
  · cases h
def rf_lst : List Frame → Bool
  | [] => false
  | [b] => rf_bot b
  | _ :: b :: r => rf_lst (b :: r)
theorem rf_lst_eq : ∀ l : List Frame, rf_lst l = true → ∃ a, l = a ++ Lib.HandBits.below0
  | [], h => by simp [rf_lst] at h
  | [b], h => ⟨[], by rw [List.nil_append]; exact rf_bot_eq (by simpa [rf_lst] using h)⟩
  | a :: b :: r, h => by
    obtain ⟨q, hq⟩ := rf_lst_eq (b :: r) (by simpa [rf_lst] using h)
    exact ⟨a :: q, by rw [hq]; rfl⟩
def rf_top : List Frame → Bool
  | .java _ :: r => rf_lst r
  | .native _ :: r => rf_lst r
  | .invoking _ _ :: r => rf_lst r
  | _ => false
theorem rf_top_eq {s : State} (h : rf_top s.frames = true) : Within s Lib.HandBits.below0 := by
  unfold rf_top at h
  split at h
  · rename_i f r hf
    obtain ⟨q, hq⟩ := rf_lst_eq _ h
    exact ⟨.java f :: q, by rw [hf, hq]; rfl, by simp, fun a h => by cases h⟩
  · rename_i f r hf
    obtain ⟨q, hq⟩ := rf_lst_eq _ h
    exact ⟨.native f :: q, by rw [hf, hq]; rfl, by simp, fun a h => by cases h⟩
  · rename_i f g r hf
    obtain ⟨q, hq⟩ := rf_lst_eq _ h
    exact ⟨.invoking f g :: q, by rw [hf, hq]; rfl, by simp, fun a h => by cases h⟩
  · cases h
def rf_ok (s : State) : Bool := match s with
  | ⟨_, _, ⟨[⟨fs, .runnable, _, false, _, _, _, _, _⟩]⟩, 0, _, _, _, _, .running⟩ => rf_top fs
  | _ => false
theorem rf_ok_eq {s : State} (h : rf_ok s = true) : Within s Lib.HandBits.below0 ∧ s.status = .running ∧ s.curStatus? = some .runnable ∧ s.alone = true := by
  unfold rf_ok at h
  split at h
  · exact ⟨rf_top_eq h, rfl, rfl, rfl⟩
  · cases h
/-- a long array of numbers: made at once (the machine looks at each of its places) -/
def rf_arr (e : Env) (s : State) : Option State :=
  match s.frames with
  | .java f :: _ =>
    match f.stack with
    | .int n :: rest =>
      match decide (100 ≤ n.toNatClampNeg) with
      | false => none
      | true =>
        match s.code? f.method with
        | some c =>
          match decode c.code f.pc with
          | .ok (.newarray t, 2) =>
            match s.vm.findClass ("[" ++ (newarray.typeOf t).toString) with
            | some cA =>
              match s.vm.classes[cA]? with
              | some k =>
                match k.kind with
                | .array _ ty =>
                  if ty = newarray.typeOf t ∧ ¬ n < 0 ∧ ¬ n.toNatClampNeg > e.platform.arrayLengthLimit ∧ ¬ n.toNatClampNeg * componentBytes (newarray.typeOf t) > e.platform.maxHeapBytes ∧ s.heap.size < e.platform.maxCells ∧ s.slotsUsed + n.toNatClampNeg ≤ e.platform.maxSlots ∧ ((s.vm.classes[f.method.cls]?).any fun q => plainName q.name) = true then
                    some ((s.pushCell { cls := cA, slots := Array.replicate n.toNatClampNeg (defaultValue (newarray.typeOf t)), vm := .none }).setTop { f with pc := f.pc + 2, stack := .ref s.heap.size :: rest })
                  else none
                | _ => none
              | none => none
            | none => none
          | _ => none
        | none => none
    | _ => none
  | _ => none
theorem rf_at {s : State} {f : JFrame} {r : List Frame} {c : Code} (h : rf_ok s = true) (hf : s.frames = .java f :: r) (hc : s.code? f.method = some c) (hp : ((s.vm.classes[f.method.cls]?).any fun q => plainName q.name) = true) : At s f.method c Lib.HandBits.below0 := by
  obtain ⟨⟨a, h1, h2, h3⟩, g2, g3, g4⟩ := rf_ok_eq h
  refine ⟨?_, ?_, g2, g3, g4, hc, ?_⟩
  · simp [State.topJava?, hf]
  · rw [h1]
    cases a with
    | nil => exact absurd rfl h2
    | cons x q => exact ⟨q, rfl⟩
  · intro k hk
    rw [hk] at hp
    exact plain_of_name (by simpa using hp)
theorem rf_arr_eq {p : Program} {e : Env} {s s' : State} (h : rf_ok s = true) (ha : rf_arr e s = some s') : Steps p.tables e Lib.HandBits.below0 s s' := by
  unfold rf_arr at ha
  split at ha
  · rename_i f r hf
    split at ha
    · rename_i n rest hst
      split at ha
      · cases ha
      · split at ha
        · rename_i c hc
          split at ha
          · rename_i t hd
            split at ha
            · rename_i cA hfc
              split at ha
              · rename_i k hk
                split at ha
                · rename_i comp ty hkind
                  split at ha
                  · rename_i hq
                    obtain ⟨q1, q2, q3, q4, q5, q6, q7⟩ := hq
                    subst q1
                    have A := rf_at h hf hc q7
                    have hex : p.tables.exec = Jvm.exec := by cases p <;> rfl
                    have hself : s.setTop f = s := State.setTop_self (by simp [State.topJava?, hf])
                    cases ha
                    have key : ∀ target, Steps p.tables e Lib.HandBits.below0 ((s.pushCell { cls := cA, slots := Array.replicate n.toNatClampNeg (defaultValue (newarray.typeOf t)), vm := .none }).setTop { f with pc := f.pc + 2, stack := .ref s.heap.size :: rest }) target → Steps p.tables e Lib.HandBits.below0 (s.setTop f) target := by
                      intro target hrest
                      jvm_step A [hex, hd, newarray.wp_ready (e := e) (s := s) (f := f) (c := cA) (k := k) (comp := comp) A.top hfc hk hkind hst q2 q3 q4]
                      exact ⟨q5, q6, hrest⟩
                    have h9 := key _ (Steps.refl _)
                    rwa [hself] at h9
                  · cases ha
                · cases ha
              · cases ha
            · cases ha
          · cases ha
        · cases ha
    · cases ha
  · cases ha
def rf_go (tb : Tables) (e : Env) : Nat → State → (State → Bool) → Bool
  | 0, s, K => K s
  | n + 1, s, K => match rf_ok s with
    | true => match rf_arr e s with
      | some s => rf_fS s fun s => rf_go tb e n s K
      | none => rf_fS (stepThread tb e s).1 fun s => rf_go tb e n s K
    | false => false
theorem rf_go_eq {p : Program} {e : Env} {K : State → Bool} : ∀ (n : Nat) (s : State), rf_go p.tables e n s K = true → ∃ t, Steps p.tables e Lib.HandBits.below0 s t ∧ K t = true := by
  intro n
  induction n with
  | zero => intro s h; exact ⟨s, Steps.refl s, h⟩
  | succ n ih =>
    intro s h
    unfold rf_go at h
    split at h
    · rename_i hq
      split at h
      · rename_i s' hs
        rw [rf_fS_eq] at h
        obtain ⟨t, g1, g2⟩ := ih _ h
        exact ⟨t, (rf_arr_eq hq hs).trans g1, g2⟩
      · rw [rf_fS_eq] at h
        obtain ⟨t, g1, g2⟩ := ih _ h
        obtain ⟨h1, h2, h3, h4⟩ := rf_ok_eq hq
        have st : Steps p.tables e Lib.HandBits.below0 s (stepThread p.tables e s).1 := by
          refine ⟨1, by simp only [stepsAlone, h2, h3, h4], fun k hk => ?_⟩
          have : k = 0 := by omega
          subst this; exact h1
        exact ⟨t, st.trans g1, g2⟩
    · cases h
end
section
/-! WORDS OF THE TABLES, FIELDS, CLASSES that the walk asks of the state behind the script's first two calls; methods, the decoding of the instructions that are walked -/
abbrev mb_isIn : ByteArray := prog_10_method_2_code
def my_isIn : MethodName := ⟨"TimeStoreModel", "isIn", "(III)Z"⟩
theorem md_isIn_0 : decode mb_isIn 0 = .ok (.iload_n 0, 1) := by decide +kernel
theorem md_isIn_1 : decode mb_isIn 1 = .ok (.iload_n 1, 1) := by decide +kernel
theorem md_isIn_2 : decode mb_isIn 2 = .ok (.if_icmp .lt 12, 3) := by decide +kernel
theorem md_isIn_5 : decode mb_isIn 5 = .ok (.iload_n 0, 1) := by decide +kernel
theorem md_isIn_6 : decode mb_isIn 6 = .ok (.iload_n 2, 1) := by decide +kernel
theorem md_isIn_7 : decode mb_isIn 7 = .ok (.if_icmp .gt 7, 3) := by decide +kernel
theorem md_isIn_10 : decode mb_isIn 10 = .ok (.iconst 1, 1) := by decide +kernel
theorem md_isIn_11 : decode mb_isIn 11 = .ok (.goto 4, 3) := by decide +kernel
theorem md_isIn_14 : decode mb_isIn 14 = .ok (.iconst 0, 1) := by decide +kernel
theorem md_isIn_15 : decode mb_isIn 15 = .ok (.ireturn, 1) := by decide +kernel
abbrev mb_refuse : ByteArray := prog_10_method_5_code
def my_refuse : MethodName := ⟨"TimeStoreModel", "refuse", "(ZI)Z"⟩
theorem md_refuse_0 : decode mb_refuse 0 = .ok (.iload_n 1, 1) := by decide +kernel
theorem md_refuse_1 : decode mb_refuse 1 = .ok (.ifCond .eq 15, 3) := by decide +kernel
theorem md_refuse_16 : decode mb_refuse 16 = .ok (.aload_n 0, 1) := by decide +kernel
theorem md_refuse_17 : decode mb_refuse 17 = .ok (.getfield 53, 3) := by decide +kernel
theorem md_refuse_20 : decode mb_refuse 20 = .ok (.ifCond .le 7, 3) := by decide +kernel
theorem md_refuse_27 : decode mb_refuse 27 = .ok (.iconst 0, 1) := by decide +kernel
theorem md_refuse_28 : decode mb_refuse 28 = .ok (.ireturn, 1) := by decide +kernel
abbrev mb_start : ByteArray := prog_10_method_6_code
def my_start : MethodName := ⟨"TimeStoreModel", "start", "(ZI)Z"⟩
theorem md_start_0 : decode mb_start 0 = .ok (.aload_n 0, 1) := by decide +kernel
theorem md_start_1 : decode mb_start 1 = .ok (.iconst 0, 1) := by decide +kernel
theorem md_start_2 : decode mb_start 2 = .ok (.putfield 53, 3) := by decide +kernel
theorem md_start_5 : decode mb_start 5 = .ok (.aload_n 0, 1) := by decide +kernel
theorem md_start_6 : decode mb_start 6 = .ok (.iload_n 1, 1) := by decide +kernel
theorem md_start_7 : decode mb_start 7 = .ok (.iload_n 2, 1) := by decide +kernel
theorem md_start_8 : decode mb_start 8 = .ok (.invokevirtual 57, 3) := by decide +kernel
theorem md_start_11 : decode mb_start 11 = .ok (.ireturn, 1) := by decide +kernel
abbrev mb_size : ByteArray := prog_37_method_8_code
def my_size : MethodName := ⟨"java/util/ArrayList", "size", "()I"⟩
theorem md_size_0 : decode mb_size 0 = .ok (.aload_n 0, 1) := by decide +kernel
theorem md_size_1 : decode mb_size 1 = .ok (.getfield 48, 3) := by decide +kernel
theorem md_size_4 : decode mb_size 4 = .ok (.ireturn, 1) := by decide +kernel
abbrev mb_isNoWin : ByteArray := prog_10_method_57_code
def my_isNoWin : MethodName := ⟨"TimeStoreModel", "isNoWindow", "(I)Z"⟩
theorem md_isNoWin_0 : decode mb_isNoWin 0 = .ok (.iload_n 1, 1) := by decide +kernel
theorem md_isNoWin_1 : decode mb_isNoWin 1 = .ok (.iconst 0, 1) := by decide +kernel
theorem md_isNoWin_2 : decode mb_isNoWin 2 = .ok (.aload_n 0, 1) := by decide +kernel
theorem md_isNoWin_3 : decode mb_isNoWin 3 = .ok (.getfield 47, 3) := by decide +kernel
theorem md_isNoWin_6 : decode mb_isNoWin 6 = .ok (.invokevirtual 119, 3) := by decide +kernel
theorem md_isNoWin_9 : decode mb_isNoWin 9 = .ok (.iconst 1, 1) := by decide +kernel
theorem md_isNoWin_10 : decode mb_isNoWin 10 = .ok (.isub, 1) := by decide +kernel
theorem md_isNoWin_11 : decode mb_isNoWin 11 = .ok (.invokestatic 61, 3) := by decide +kernel
theorem md_isNoWin_14 : decode mb_isNoWin 14 = .ok (.ifCond .ne 7, 3) := by decide +kernel
theorem md_isNoWin_21 : decode mb_isNoWin 21 = .ok (.iconst 0, 1) := by decide +kernel
theorem md_isNoWin_22 : decode mb_isNoWin 22 = .ok (.ireturn, 1) := by decide +kernel
abbrev mb_preCheck : ByteArray := prog_47_method_11_code
def my_preCheck : MethodName := ⟨"jdk/internal/util/Preconditions", "checkIndex", "(IILjava/util/function/BiFunction;)I"⟩
theorem md_preCheck_0 : decode mb_preCheck 0 = .ok (.iload_n 0, 1) := by decide +kernel
theorem md_preCheck_1 : decode mb_preCheck 1 = .ok (.ifCond .lt 8, 3) := by decide +kernel
theorem md_preCheck_4 : decode mb_preCheck 4 = .ok (.iload_n 0, 1) := by decide +kernel
theorem md_preCheck_5 : decode mb_preCheck 5 = .ok (.iload_n 1, 1) := by decide +kernel
theorem md_preCheck_6 : decode mb_preCheck 6 = .ok (.if_icmp .lt 10, 3) := by decide +kernel
theorem md_preCheck_16 : decode mb_preCheck 16 = .ok (.iload_n 0, 1) := by decide +kernel
theorem md_preCheck_17 : decode mb_preCheck 17 = .ok (.ireturn, 1) := by decide +kernel
abbrev mb_objCheck : ByteArray := prog_43_method_17_code
def my_objCheck : MethodName := ⟨"java/util/Objects", "checkIndex", "(II)I"⟩
theorem md_objCheck_0 : decode mb_objCheck 0 = .ok (.iload_n 0, 1) := by decide +kernel
theorem md_objCheck_1 : decode mb_objCheck 1 = .ok (.iload_n 1, 1) := by decide +kernel
theorem md_objCheck_2 : decode mb_objCheck 2 = .ok (.aconst_null, 1) := by decide +kernel
theorem md_objCheck_3 : decode mb_objCheck 3 = .ok (.invokestatic 105, 3) := by decide +kernel
theorem md_objCheck_6 : decode mb_objCheck 6 = .ok (.ireturn, 1) := by decide +kernel
abbrev mb_elemData : ByteArray := prog_37_method_18_code
def my_elemData : MethodName := ⟨"java/util/ArrayList", "elementData", "(I)Ljava/lang/Object;"⟩
theorem md_elemData_0 : decode mb_elemData 0 = .ok (.aload_n 0, 1) := by decide +kernel
theorem md_elemData_1 : decode mb_elemData 1 = .ok (.getfield 9, 3) := by decide +kernel
theorem md_elemData_4 : decode mb_elemData 4 = .ok (.iload_n 1, 1) := by decide +kernel
theorem md_elemData_5 : decode mb_elemData 5 = .ok (.aaload, 1) := by decide +kernel
theorem md_elemData_6 : decode mb_elemData 6 = .ok (.areturn, 1) := by decide +kernel
abbrev mb_get : ByteArray := prog_37_method_20_code
def my_get : MethodName := ⟨"java/util/ArrayList", "get", "(I)Ljava/lang/Object;"⟩
theorem md_get_0 : decode mb_get 0 = .ok (.iload_n 1, 1) := by decide +kernel
theorem md_get_1 : decode mb_get 1 = .ok (.aload_n 0, 1) := by decide +kernel
theorem md_get_2 : decode mb_get 2 = .ok (.getfield 48, 3) := by decide +kernel
theorem md_get_5 : decode mb_get 5 = .ok (.invokestatic 118, 3) := by decide +kernel
theorem md_get_8 : decode mb_get 8 = .ok (.pop, 1) := by decide +kernel
theorem md_get_9 : decode mb_get 9 = .ok (.aload_n 0, 1) := by decide +kernel
theorem md_get_10 : decode mb_get 10 = .ok (.iload_n 1, 1) := by decide +kernel
theorem md_get_11 : decode mb_get 11 = .ok (.invokevirtual 123, 3) := by decide +kernel
theorem md_get_14 : decode mb_get 14 = .ok (.areturn, 1) := by decide +kernel
abbrev mb_of : ByteArray := prog_10_method_7_code
def my_of : MethodName := ⟨"TimeStoreModel", "of", "(I)Ljava/util/ArrayList;"⟩
theorem md_of_0 : decode mb_of 0 = .ok (.iload_n 1, 1) := by decide +kernel
theorem md_of_1 : decode mb_of 1 = .ok (.ifCond .ne 10, 3) := by decide +kernel
theorem md_of_4 : decode mb_of 4 = .ok (.aload_n 0, 1) := by decide +kernel
theorem md_of_5 : decode mb_of 5 = .ok (.getfield 10, 3) := by decide +kernel
theorem md_of_8 : decode mb_of 8 = .ok (.goto 7, 3) := by decide +kernel
theorem md_of_15 : decode mb_of 15 = .ok (.areturn, 1) := by decide +kernel
abbrev mb_needWin : ByteArray := prog_1_method_91_code
def my_needWin : MethodName := ⟨"TimeStore", "needWindow", "(I)V"⟩
theorem md_needWin_0 : decode mb_needWin 0 = .ok (.iload_n 1, 1) := by decide +kernel
theorem md_needWin_1 : decode mb_needWin 1 = .ok (.ifCond .lt 11, 3) := by decide +kernel
theorem md_needWin_4 : decode mb_needWin 4 = .ok (.iload_n 1, 1) := by decide +kernel
theorem md_needWin_5 : decode mb_needWin 5 = .ok (.aload_n 0, 1) := by decide +kernel
theorem md_needWin_6 : decode mb_needWin 6 = .ok (.getfield 261, 3) := by decide +kernel
theorem md_needWin_9 : decode mb_needWin 9 = .ok (.if_icmp .lt 14, 3) := by decide +kernel
theorem md_needWin_23 : decode mb_needWin 23 = .ok (.return_, 1) := by decide +kernel
abbrev mb_needWhat : ByteArray := prog_1_method_97_code
def my_needWhat : MethodName := ⟨"TimeStore", "needWhat", "(II)V"⟩
theorem md_needWhat_0 : decode mb_needWhat 0 = .ok (.iload_n 0, 1) := by decide +kernel
theorem md_needWhat_1 : decode mb_needWhat 1 = .ok (.ifCond .lt 8, 3) := by decide +kernel
theorem md_needWhat_4 : decode mb_needWhat 4 = .ok (.iload_n 0, 1) := by decide +kernel
theorem md_needWhat_5 : decode mb_needWhat 5 = .ok (.iload_n 1, 1) := by decide +kernel
theorem md_needWhat_6 : decode mb_needWhat 6 = .ok (.if_icmp .le 14, 3) := by decide +kernel
theorem md_needWhat_20 : decode mb_needWhat 20 = .ok (.return_, 1) := by decide +kernel
abbrev mb_storeAt : ByteArray := prog_1_method_86_code
def my_storeAt : MethodName := ⟨"TimeStore", "storeAt", "(I)LTimeStore$Store;"⟩
theorem md_storeAt_0 : decode mb_storeAt 0 = .ok (.iload_n 1, 1) := by decide +kernel
theorem md_storeAt_1 : decode mb_storeAt 1 = .ok (.ifCond .ne 10, 3) := by decide +kernel
theorem md_storeAt_4 : decode mb_storeAt 4 = .ok (.aload_n 0, 1) := by decide +kernel
theorem md_storeAt_5 : decode mb_storeAt 5 = .ok (.getfield 14, 3) := by decide +kernel
theorem md_storeAt_8 : decode mb_storeAt 8 = .ok (.goto 7, 3) := by decide +kernel
theorem md_storeAt_15 : decode mb_storeAt 15 = .ok (.areturn, 1) := by decide +kernel
abbrev mb_pack : ByteArray := prog_7_method_2_code
def my_pack : MethodName := ⟨"TimeStore$Words", "pack", "(IIIII)J"⟩
theorem md_pack_0 : decode mb_pack 0 = .ok (.iload_n 0, 1) := by decide +kernel
theorem md_pack_1 : decode mb_pack 1 = .ok (.i2l, 1) := by decide +kernel
theorem md_pack_2 : decode mb_pack 2 = .ok (.bipush 10, 2) := by decide +kernel
theorem md_pack_4 : decode mb_pack 4 = .ok (.lshl, 1) := by decide +kernel
theorem md_pack_5 : decode mb_pack 5 = .ok (.iload_n 1, 1) := by decide +kernel
theorem md_pack_6 : decode mb_pack 6 = .ok (.i2l, 1) := by decide +kernel
theorem md_pack_7 : decode mb_pack 7 = .ok (.lor, 1) := by decide +kernel
theorem md_pack_8 : decode mb_pack 8 = .ok (.lstore 5, 2) := by decide +kernel
theorem md_pack_10 : decode mb_pack 10 = .ok (.lload 5, 2) := by decide +kernel
theorem md_pack_12 : decode mb_pack 12 = .ok (.bipush 10, 2) := by decide +kernel
theorem md_pack_14 : decode mb_pack 14 = .ok (.lshl, 1) := by decide +kernel
theorem md_pack_15 : decode mb_pack 15 = .ok (.iload_n 2, 1) := by decide +kernel
theorem md_pack_16 : decode mb_pack 16 = .ok (.i2l, 1) := by decide +kernel
theorem md_pack_17 : decode mb_pack 17 = .ok (.lor, 1) := by decide +kernel
theorem md_pack_18 : decode mb_pack 18 = .ok (.bipush 8, 2) := by decide +kernel
theorem md_pack_20 : decode mb_pack 20 = .ok (.lshl, 1) := by decide +kernel
theorem md_pack_21 : decode mb_pack 21 = .ok (.iload_n 3, 1) := by decide +kernel
theorem md_pack_22 : decode mb_pack 22 = .ok (.bipush 7, 2) := by decide +kernel
theorem md_pack_24 : decode mb_pack 24 = .ok (.ishl, 1) := by decide +kernel
theorem md_pack_25 : decode mb_pack 25 = .ok (.i2l, 1) := by decide +kernel
theorem md_pack_26 : decode mb_pack 26 = .ok (.lor, 1) := by decide +kernel
theorem md_pack_27 : decode mb_pack 27 = .ok (.iload 4, 2) := by decide +kernel
theorem md_pack_29 : decode mb_pack 29 = .ok (.iconst 2, 1) := by decide +kernel
theorem md_pack_30 : decode mb_pack 30 = .ok (.iadd, 1) := by decide +kernel
theorem md_pack_31 : decode mb_pack 31 = .ok (.i2l, 1) := by decide +kernel
theorem md_pack_32 : decode mb_pack 32 = .ok (.lor, 1) := by decide +kernel
theorem md_pack_33 : decode mb_pack 33 = .ok (.lreturn, 1) := by decide +kernel
abbrev mb_placeOf : ByteArray := prog_7_method_15_code
def my_placeOf : MethodName := ⟨"TimeStore$Words", "placeOf", "(J)I"⟩
theorem md_placeOf_0 : decode mb_placeOf 0 = .ok (.iconst 0, 1) := by decide +kernel
theorem md_placeOf_1 : decode mb_placeOf 1 = .ok (.istore_n 3, 1) := by decide +kernel
theorem md_placeOf_2 : decode mb_placeOf 2 = .ok (.aload_n 0, 1) := by decide +kernel
theorem md_placeOf_3 : decode mb_placeOf 3 = .ok (.getfield 17, 3) := by decide +kernel
theorem md_placeOf_6 : decode mb_placeOf 6 = .ok (.istore 4, 2) := by decide +kernel
theorem md_placeOf_8 : decode mb_placeOf 8 = .ok (.iconst 0, 1) := by decide +kernel
theorem md_placeOf_9 : decode mb_placeOf 9 = .ok (.istore 5, 2) := by decide +kernel
theorem md_placeOf_11 : decode mb_placeOf 11 = .ok (.iload_n 3, 1) := by decide +kernel
theorem md_placeOf_12 : decode mb_placeOf 12 = .ok (.iload 4, 2) := by decide +kernel
theorem md_placeOf_14 : decode mb_placeOf 14 = .ok (.if_icmp .ge 48, 3) := by decide +kernel
theorem md_placeOf_17 : decode mb_placeOf 17 = .ok (.iload 5, 2) := by decide +kernel
theorem md_placeOf_19 : decode mb_placeOf 19 = .ok (.bipush 32, 2) := by decide +kernel
theorem md_placeOf_21 : decode mb_placeOf 21 = .ok (.if_icmp .ge 41, 3) := by decide +kernel
theorem md_placeOf_24 : decode mb_placeOf 24 = .ok (.iload_n 3, 1) := by decide +kernel
theorem md_placeOf_25 : decode mb_placeOf 25 = .ok (.iload 4, 2) := by decide +kernel
theorem md_placeOf_27 : decode mb_placeOf 27 = .ok (.iadd, 1) := by decide +kernel
theorem md_placeOf_28 : decode mb_placeOf 28 = .ok (.iconst 2, 1) := by decide +kernel
theorem md_placeOf_29 : decode mb_placeOf 29 = .ok (.idiv, 1) := by decide +kernel
theorem md_placeOf_30 : decode mb_placeOf 30 = .ok (.istore 6, 2) := by decide +kernel
theorem md_placeOf_32 : decode mb_placeOf 32 = .ok (.aload_n 0, 1) := by decide +kernel
theorem md_placeOf_33 : decode mb_placeOf 33 = .ok (.getfield 9, 3) := by decide +kernel
theorem md_placeOf_36 : decode mb_placeOf 36 = .ok (.iload 6, 2) := by decide +kernel
theorem md_placeOf_38 : decode mb_placeOf 38 = .ok (.laload, 1) := by decide +kernel
theorem md_placeOf_39 : decode mb_placeOf 39 = .ok (.lload_n 1, 1) := by decide +kernel
theorem md_placeOf_40 : decode mb_placeOf 40 = .ok (.lcmp, 1) := by decide +kernel
theorem md_placeOf_41 : decode mb_placeOf 41 = .ok (.ifCond .ge 11, 3) := by decide +kernel
theorem md_placeOf_44 : decode mb_placeOf 44 = .ok (.iload 6, 2) := by decide +kernel
theorem md_placeOf_46 : decode mb_placeOf 46 = .ok (.iconst 1, 1) := by decide +kernel
theorem md_placeOf_47 : decode mb_placeOf 47 = .ok (.iadd, 1) := by decide +kernel
theorem md_placeOf_48 : decode mb_placeOf 48 = .ok (.istore_n 3, 1) := by decide +kernel
theorem md_placeOf_49 : decode mb_placeOf 49 = .ok (.goto 7, 3) := by decide +kernel
theorem md_placeOf_56 : decode mb_placeOf 56 = .ok (.iinc 5 1, 3) := by decide +kernel
theorem md_placeOf_59 : decode mb_placeOf 59 = .ok (.goto (-48), 3) := by decide +kernel
theorem md_placeOf_62 : decode mb_placeOf 62 = .ok (.iload_n 3, 1) := by decide +kernel
theorem md_placeOf_63 : decode mb_placeOf 63 = .ok (.ireturn, 1) := by decide +kernel
abbrev mb_firstAb : ByteArray := prog_7_method_16_code
def my_firstAb : MethodName := ⟨"TimeStore$Words", "firstAbout", "(II)I"⟩
theorem md_firstAb_0 : decode mb_firstAb 0 = .ok (.aload_n 0, 1) := by decide +kernel
theorem md_firstAb_1 : decode mb_firstAb 1 = .ok (.iload_n 1, 1) := by decide +kernel
theorem md_firstAb_2 : decode mb_firstAb 2 = .ok (.iload_n 2, 1) := by decide +kernel
theorem md_firstAb_3 : decode mb_firstAb 3 = .ok (.iconst 0, 1) := by decide +kernel
theorem md_firstAb_4 : decode mb_firstAb 4 = .ok (.iconst 0, 1) := by decide +kernel
theorem md_firstAb_5 : decode mb_firstAb 5 = .ok (.bipush (-2), 2) := by decide +kernel
theorem md_firstAb_7 : decode mb_firstAb 7 = .ok (.invokestatic 41, 3) := by decide +kernel
theorem md_firstAb_10 : decode mb_firstAb 10 = .ok (.invokevirtual 45, 3) := by decide +kernel
theorem md_firstAb_13 : decode mb_firstAb 13 = .ok (.ireturn, 1) := by decide +kernel
abbrev mb_endPer : ByteArray := prog_1_method_55_code
def my_endPer : MethodName := ⟨"TimeStore", "endPeriodOf", "(LTimeStore$Window;Z)I"⟩
theorem md_endPer_0 : decode mb_endPer 0 = .ok (.aload_n 0, 1) := by decide +kernel
theorem md_endPer_1 : decode mb_endPer 1 = .ok (.aload_n 1, 1) := by decide +kernel
theorem md_endPer_2 : decode mb_endPer 2 = .ok (.getfield 291, 3) := by decide +kernel
theorem md_endPer_5 : decode mb_endPer 5 = .ok (.invokevirtual 83, 3) := by decide +kernel
theorem md_endPer_8 : decode mb_endPer 8 = .ok (.getfield 113, 3) := by decide +kernel
theorem md_endPer_11 : decode mb_endPer 11 = .ok (.astore_n 3, 1) := by decide +kernel
theorem md_endPer_12 : decode mb_endPer 12 = .ok (.aload_n 3, 1) := by decide +kernel
theorem md_endPer_13 : decode mb_endPer 13 = .ok (.aload_n 1, 1) := by decide +kernel
theorem md_endPer_14 : decode mb_endPer 14 = .ok (.getfield 294, 3) := by decide +kernel
theorem md_endPer_17 : decode mb_endPer 17 = .ok (.aload_n 1, 1) := by decide +kernel
theorem md_endPer_18 : decode mb_endPer 18 = .ok (.getfield 281, 3) := by decide +kernel
theorem md_endPer_21 : decode mb_endPer 21 = .ok (.invokevirtual 186, 3) := by decide +kernel
theorem md_endPer_24 : decode mb_endPer 24 = .ok (.istore 4, 2) := by decide +kernel
theorem md_endPer_26 : decode mb_endPer 26 = .ok (.aload_n 3, 1) := by decide +kernel
theorem md_endPer_27 : decode mb_endPer 27 = .ok (.aload_n 1, 1) := by decide +kernel
theorem md_endPer_28 : decode mb_endPer 28 = .ok (.getfield 294, 3) := by decide +kernel
theorem md_endPer_31 : decode mb_endPer 31 = .ok (.aload_n 1, 1) := by decide +kernel
theorem md_endPer_32 : decode mb_endPer 32 = .ok (.getfield 284, 3) := by decide +kernel
theorem md_endPer_35 : decode mb_endPer 35 = .ok (.iconst 1, 1) := by decide +kernel
theorem md_endPer_36 : decode mb_endPer 36 = .ok (.iadd, 1) := by decide +kernel
theorem md_endPer_37 : decode mb_endPer 37 = .ok (.invokevirtual 186, 3) := by decide +kernel
theorem md_endPer_40 : decode mb_endPer 40 = .ok (.istore 5, 2) := by decide +kernel
theorem md_endPer_42 : decode mb_endPer 42 = .ok (.iload 4, 2) := by decide +kernel
theorem md_endPer_44 : decode mb_endPer 44 = .ok (.iload 5, 2) := by decide +kernel
theorem md_endPer_46 : decode mb_endPer 46 = .ok (.if_icmp .lt 6, 3) := by decide +kernel
theorem md_endPer_49 : decode mb_endPer 49 = .ok (.bipush (-9), 2) := by decide +kernel
theorem md_endPer_51 : decode mb_endPer 51 = .ok (.ireturn, 1) := by decide +kernel
abbrev mb_cofWin : ByteArray := prog_1_method_54_code
def my_cofWin : MethodName := ⟨"TimeStore", "ofWindow", "(II)I"⟩
theorem md_cofWin_0 : decode mb_cofWin 0 = .ok (.aload_n 0, 1) := by decide +kernel
theorem md_cofWin_1 : decode mb_cofWin 1 = .ok (.iload_n 1, 1) := by decide +kernel
theorem md_cofWin_2 : decode mb_cofWin 2 = .ok (.invokevirtual 275, 3) := by decide +kernel
theorem md_cofWin_5 : decode mb_cofWin 5 = .ok (.iload_n 2, 1) := by decide +kernel
theorem md_cofWin_6 : decode mb_cofWin 6 = .ok (.bipush 6, 2) := by decide +kernel
theorem md_cofWin_8 : decode mb_cofWin 8 = .ok (.invokestatic 337, 3) := by decide +kernel
theorem md_cofWin_11 : decode mb_cofWin 11 = .ok (.aload_n 0, 1) := by decide +kernel
theorem md_cofWin_12 : decode mb_cofWin 12 = .ok (.getfield 54, 3) := by decide +kernel
theorem md_cofWin_15 : decode mb_cofWin 15 = .ok (.iload_n 1, 1) := by decide +kernel
theorem md_cofWin_16 : decode mb_cofWin 16 = .ok (.aaload, 1) := by decide +kernel
theorem md_cofWin_17 : decode mb_cofWin 17 = .ok (.astore_n 3, 1) := by decide +kernel
theorem md_cofWin_18 : decode mb_cofWin 18 = .ok (.iload_n 2, 1) := by decide +kernel
theorem md_cofWin_19 : decode mb_cofWin 19 = .ok (.tableswitch 59 0 4 #[33, 38, 43, 48, 53], 33) := by decide +kernel
theorem md_cofWin_78 : decode mb_cofWin 78 = .ok (.aload_n 0, 1) := by decide +kernel
theorem md_cofWin_79 : decode mb_cofWin 79 = .ok (.aload_n 3, 1) := by decide +kernel
theorem md_cofWin_80 : decode mb_cofWin 80 = .ok (.iload_n 2, 1) := by decide +kernel
theorem md_cofWin_81 : decode mb_cofWin 81 = .ok (.bipush 6, 2) := by decide +kernel
theorem md_cofWin_83 : decode mb_cofWin 83 = .ok (.if_icmp .ne 7, 3) := by decide +kernel
theorem md_cofWin_90 : decode mb_cofWin 90 = .ok (.iconst 0, 1) := by decide +kernel
theorem md_cofWin_91 : decode mb_cofWin 91 = .ok (.invokevirtual 418, 3) := by decide +kernel
theorem md_cofWin_94 : decode mb_cofWin 94 = .ok (.ireturn, 1) := by decide +kernel
abbrev mb_abcInit : ByteArray := prog_35_method_1_code
def my_abcInit : MethodName := ⟨"java/util/AbstractCollection", "<init>", "()V"⟩
theorem md_abcInit_0 : decode mb_abcInit 0 = .ok (.aload_n 0, 1) := by decide +kernel
theorem md_abcInit_1 : decode mb_abcInit 1 = .ok (.invokespecial 1, 3) := by decide +kernel
theorem md_abcInit_4 : decode mb_abcInit 4 = .ok (.return_, 1) := by decide +kernel
abbrev mb_ablInit : ByteArray := prog_36_method_1_code
def my_ablInit : MethodName := ⟨"java/util/AbstractList", "<init>", "()V"⟩
theorem md_ablInit_0 : decode mb_ablInit 0 = .ok (.aload_n 0, 1) := by decide +kernel
theorem md_ablInit_1 : decode mb_ablInit 1 = .ok (.invokespecial 1, 3) := by decide +kernel
theorem md_ablInit_4 : decode mb_ablInit 4 = .ok (.aload_n 0, 1) := by decide +kernel
theorem md_ablInit_5 : decode mb_ablInit 5 = .ok (.iconst 0, 1) := by decide +kernel
theorem md_ablInit_6 : decode mb_ablInit 6 = .ok (.putfield 7, 3) := by decide +kernel
theorem md_ablInit_9 : decode mb_ablInit 9 = .ok (.return_, 1) := by decide +kernel
abbrev mb_alInit : ByteArray := prog_37_method_2_code
def my_alInit : MethodName := ⟨"java/util/ArrayList", "<init>", "()V"⟩
theorem md_alInit_0 : decode mb_alInit 0 = .ok (.aload_n 0, 1) := by decide +kernel
theorem md_alInit_1 : decode mb_alInit 1 = .ok (.invokespecial 1, 3) := by decide +kernel
theorem md_alInit_4 : decode mb_alInit 4 = .ok (.aload_n 0, 1) := by decide +kernel
theorem md_alInit_5 : decode mb_alInit 5 = .ok (.getstatic 39, 3) := by decide +kernel
theorem md_alInit_8 : decode mb_alInit 8 = .ok (.putfield 9, 3) := by decide +kernel
theorem md_alInit_11 : decode mb_alInit 11 = .ok (.return_, 1) := by decide +kernel
abbrev mb_itrInit : ByteArray := prog_38_method_1_code
def my_itrInit : MethodName := ⟨"java/util/ArrayList$Itr", "<init>", "(Ljava/util/ArrayList;)V"⟩
theorem md_itrInit_0 : decode mb_itrInit 0 = .ok (.aload_n 0, 1) := by decide +kernel
theorem md_itrInit_1 : decode mb_itrInit 1 = .ok (.aload_n 1, 1) := by decide +kernel
theorem md_itrInit_2 : decode mb_itrInit 2 = .ok (.putfield 1, 3) := by decide +kernel
theorem md_itrInit_5 : decode mb_itrInit 5 = .ok (.aload_n 0, 1) := by decide +kernel
theorem md_itrInit_6 : decode mb_itrInit 6 = .ok (.invokespecial 7, 3) := by decide +kernel
theorem md_itrInit_9 : decode mb_itrInit 9 = .ok (.aload_n 0, 1) := by decide +kernel
theorem md_itrInit_10 : decode mb_itrInit 10 = .ok (.iconst (-1), 1) := by decide +kernel
theorem md_itrInit_11 : decode mb_itrInit 11 = .ok (.putfield 13, 3) := by decide +kernel
theorem md_itrInit_14 : decode mb_itrInit 14 = .ok (.aload_n 0, 1) := by decide +kernel
theorem md_itrInit_15 : decode mb_itrInit 15 = .ok (.aload_n 0, 1) := by decide +kernel
theorem md_itrInit_16 : decode mb_itrInit 16 = .ok (.getfield 1, 3) := by decide +kernel
theorem md_itrInit_19 : decode mb_itrInit 19 = .ok (.getfield 17, 3) := by decide +kernel
theorem md_itrInit_22 : decode mb_itrInit 22 = .ok (.putfield 22, 3) := by decide +kernel
theorem md_itrInit_25 : decode mb_itrInit 25 = .ok (.return_, 1) := by decide +kernel
abbrev mb_iterator : ByteArray := prog_37_method_55_code
def my_iterator : MethodName := ⟨"java/util/ArrayList", "iterator", "()Ljava/util/Iterator;"⟩
theorem md_iterator_0 : decode mb_iterator 0 = .ok (.new 267, 3) := by decide +kernel
theorem md_iterator_3 : decode mb_iterator 3 = .ok (.dup, 1) := by decide +kernel
theorem md_iterator_4 : decode mb_iterator 4 = .ok (.aload_n 0, 1) := by decide +kernel
theorem md_iterator_5 : decode mb_iterator 5 = .ok (.invokespecial 269, 3) := by decide +kernel
theorem md_iterator_8 : decode mb_iterator 8 = .ok (.areturn, 1) := by decide +kernel
abbrev mb_hasNext : ByteArray := prog_38_method_2_code
def my_hasNext : MethodName := ⟨"java/util/ArrayList$Itr", "hasNext", "()Z"⟩
theorem md_hasNext_0 : decode mb_hasNext 0 = .ok (.aload_n 0, 1) := by decide +kernel
theorem md_hasNext_1 : decode mb_hasNext 1 = .ok (.getfield 25, 3) := by decide +kernel
theorem md_hasNext_4 : decode mb_hasNext 4 = .ok (.aload_n 0, 1) := by decide +kernel
theorem md_hasNext_5 : decode mb_hasNext 5 = .ok (.getfield 1, 3) := by decide +kernel
theorem md_hasNext_8 : decode mb_hasNext 8 = .ok (.getfield 28, 3) := by decide +kernel
theorem md_hasNext_11 : decode mb_hasNext 11 = .ok (.if_icmp .eq 7, 3) := by decide +kernel
theorem md_hasNext_14 : decode mb_hasNext 14 = .ok (.iconst 1, 1) := by decide +kernel
theorem md_hasNext_15 : decode mb_hasNext 15 = .ok (.goto 4, 3) := by decide +kernel
theorem md_hasNext_18 : decode mb_hasNext 18 = .ok (.iconst 0, 1) := by decide +kernel
theorem md_hasNext_19 : decode mb_hasNext 19 = .ok (.ireturn, 1) := by decide +kernel
abbrev mb_checkMod : ByteArray := prog_38_method_6_code
def my_checkMod : MethodName := ⟨"java/util/ArrayList$Itr", "checkForComodification", "()V"⟩
theorem md_checkMod_0 : decode mb_checkMod 0 = .ok (.aload_n 0, 1) := by decide +kernel
theorem md_checkMod_1 : decode mb_checkMod 1 = .ok (.getfield 1, 3) := by decide +kernel
theorem md_checkMod_4 : decode mb_checkMod 4 = .ok (.getfield 17, 3) := by decide +kernel
theorem md_checkMod_7 : decode mb_checkMod 7 = .ok (.aload_n 0, 1) := by decide +kernel
theorem md_checkMod_8 : decode mb_checkMod 8 = .ok (.getfield 22, 3) := by decide +kernel
theorem md_checkMod_11 : decode mb_checkMod 11 = .ok (.if_icmp .eq 11, 3) := by decide +kernel
theorem md_checkMod_22 : decode mb_checkMod 22 = .ok (.return_, 1) := by decide +kernel
abbrev mb_next : ByteArray := prog_38_method_3_code
def my_next : MethodName := ⟨"java/util/ArrayList$Itr", "next", "()Ljava/lang/Object;"⟩
theorem md_next_0 : decode mb_next 0 = .ok (.aload_n 0, 1) := by decide +kernel
theorem md_next_1 : decode mb_next 1 = .ok (.invokevirtual 31, 3) := by decide +kernel
theorem md_next_4 : decode mb_next 4 = .ok (.aload_n 0, 1) := by decide +kernel
theorem md_next_5 : decode mb_next 5 = .ok (.getfield 25, 3) := by decide +kernel
theorem md_next_8 : decode mb_next 8 = .ok (.istore_n 1, 1) := by decide +kernel
theorem md_next_9 : decode mb_next 9 = .ok (.iload_n 1, 1) := by decide +kernel
theorem md_next_10 : decode mb_next 10 = .ok (.aload_n 0, 1) := by decide +kernel
theorem md_next_11 : decode mb_next 11 = .ok (.getfield 1, 3) := by decide +kernel
theorem md_next_14 : decode mb_next 14 = .ok (.getfield 28, 3) := by decide +kernel
theorem md_next_17 : decode mb_next 17 = .ok (.if_icmp .lt 11, 3) := by decide +kernel
theorem md_next_28 : decode mb_next 28 = .ok (.aload_n 0, 1) := by decide +kernel
theorem md_next_29 : decode mb_next 29 = .ok (.getfield 1, 3) := by decide +kernel
theorem md_next_32 : decode mb_next 32 = .ok (.getfield 37, 3) := by decide +kernel
theorem md_next_35 : decode mb_next 35 = .ok (.astore_n 2, 1) := by decide +kernel
theorem md_next_36 : decode mb_next 36 = .ok (.iload_n 1, 1) := by decide +kernel
theorem md_next_37 : decode mb_next 37 = .ok (.aload_n 2, 1) := by decide +kernel
theorem md_next_38 : decode mb_next 38 = .ok (.arraylength, 1) := by decide +kernel
theorem md_next_39 : decode mb_next 39 = .ok (.if_icmp .lt 11, 3) := by decide +kernel
theorem md_next_50 : decode mb_next 50 = .ok (.aload_n 0, 1) := by decide +kernel
theorem md_next_51 : decode mb_next 51 = .ok (.iload_n 1, 1) := by decide +kernel
theorem md_next_52 : decode mb_next 52 = .ok (.iconst 1, 1) := by decide +kernel
theorem md_next_53 : decode mb_next 53 = .ok (.iadd, 1) := by decide +kernel
theorem md_next_54 : decode mb_next 54 = .ok (.putfield 25, 3) := by decide +kernel
theorem md_next_57 : decode mb_next 57 = .ok (.aload_n 2, 1) := by decide +kernel
theorem md_next_58 : decode mb_next 58 = .ok (.aload_n 0, 1) := by decide +kernel
theorem md_next_59 : decode mb_next 59 = .ok (.iload_n 1, 1) := by decide +kernel
theorem md_next_60 : decode mb_next 60 = .ok (.dup_x1, 1) := by decide +kernel
theorem md_next_61 : decode mb_next 61 = .ok (.putfield 13, 3) := by decide +kernel
theorem md_next_64 : decode mb_next 64 = .ok (.aaload, 1) := by decide +kernel
theorem md_next_65 : decode mb_next 65 = .ok (.areturn, 1) := by decide +kernel
abbrev mb_seen : ByteArray := prog_10_method_59_code
def my_seen : MethodName := ⟨"TimeStoreModel", "seen", "([I)Ljava/util/ArrayList;"⟩
theorem md_seen_0 : decode mb_seen 0 = .ok (.new 7, 3) := by decide +kernel
theorem md_seen_3 : decode mb_seen 3 = .ok (.dup, 1) := by decide +kernel
theorem md_seen_4 : decode mb_seen 4 = .ok (.invokespecial 9, 3) := by decide +kernel
theorem md_seen_7 : decode mb_seen 7 = .ok (.astore_n 2, 1) := by decide +kernel
theorem md_seen_8 : decode mb_seen 8 = .ok (.aload_n 0, 1) := by decide +kernel
theorem md_seen_9 : decode mb_seen 9 = .ok (.aload_n 1, 1) := by decide +kernel
theorem md_seen_10 : decode mb_seen 10 = .ok (.iconst 0, 1) := by decide +kernel
theorem md_seen_11 : decode mb_seen 11 = .ok (.iaload, 1) := by decide +kernel
theorem md_seen_12 : decode mb_seen 12 = .ok (.invokevirtual 115, 3) := by decide +kernel
theorem md_seen_15 : decode mb_seen 15 = .ok (.invokevirtual 69, 3) := by decide +kernel
theorem md_seen_18 : decode mb_seen 18 = .ok (.astore_n 3, 1) := by decide +kernel
theorem md_seen_19 : decode mb_seen 19 = .ok (.aload_n 3, 1) := by decide +kernel
theorem md_seen_20 : decode mb_seen 20 = .ok (.invokeinterface 73 1, 5) := by decide +kernel
theorem md_seen_25 : decode mb_seen 25 = .ok (.ifCond .eq 50, 3) := by decide +kernel
theorem md_seen_28 : decode mb_seen 28 = .ok (.aload_n 3, 1) := by decide +kernel
theorem md_seen_29 : decode mb_seen 29 = .ok (.invokeinterface 79 1, 5) := by decide +kernel
theorem md_seen_34 : decode mb_seen 34 = .ok (.checkcast 83, 3) := by decide +kernel
theorem md_seen_37 : decode mb_seen 37 = .ok (.astore 4, 2) := by decide +kernel
theorem md_seen_39 : decode mb_seen 39 = .ok (.aload 4, 2) := by decide +kernel
theorem md_seen_41 : decode mb_seen 41 = .ok (.iconst 1, 1) := by decide +kernel
theorem md_seen_42 : decode mb_seen 42 = .ok (.iaload, 1) := by decide +kernel
theorem md_seen_43 : decode mb_seen 43 = .ok (.aload_n 1, 1) := by decide +kernel
theorem md_seen_44 : decode mb_seen 44 = .ok (.iconst 1, 1) := by decide +kernel
theorem md_seen_45 : decode mb_seen 45 = .ok (.iaload, 1) := by decide +kernel
theorem md_seen_46 : decode mb_seen 46 = .ok (.if_icmp .ne 26, 3) := by decide +kernel
theorem md_seen_49 : decode mb_seen 49 = .ok (.aload 4, 2) := by decide +kernel
theorem md_seen_51 : decode mb_seen 51 = .ok (.iconst 2, 1) := by decide +kernel
theorem md_seen_52 : decode mb_seen 52 = .ok (.iaload, 1) := by decide +kernel
theorem md_seen_53 : decode mb_seen 53 = .ok (.aload_n 1, 1) := by decide +kernel
theorem md_seen_54 : decode mb_seen 54 = .ok (.iconst 2, 1) := by decide +kernel
theorem md_seen_55 : decode mb_seen 55 = .ok (.iaload, 1) := by decide +kernel
theorem md_seen_56 : decode mb_seen 56 = .ok (.aload_n 1, 1) := by decide +kernel
theorem md_seen_57 : decode mb_seen 57 = .ok (.iconst 3, 1) := by decide +kernel
theorem md_seen_58 : decode mb_seen 58 = .ok (.iaload, 1) := by decide +kernel
theorem md_seen_59 : decode mb_seen 59 = .ok (.invokestatic 61, 3) := by decide +kernel
theorem md_seen_62 : decode mb_seen 62 = .ok (.ifCond .eq 10, 3) := by decide +kernel
theorem md_seen_72 : decode mb_seen 72 = .ok (.goto (-53), 3) := by decide +kernel
theorem md_seen_75 : decode mb_seen 75 = .ok (.aload_n 2, 1) := by decide +kernel
theorem md_seen_76 : decode mb_seen 76 = .ok (.areturn, 1) := by decide +kernel
abbrev mb_wordsOf : ByteArray := prog_10_method_107_code
def my_wordsOf : MethodName := ⟨"TimeStoreModel", "wordsOf", "(Ljava/util/ArrayList;II)Ljava/util/ArrayList;"⟩
theorem md_wordsOf_0 : decode mb_wordsOf 0 = .ok (.new 7, 3) := by decide +kernel
theorem md_wordsOf_3 : decode mb_wordsOf 3 = .ok (.dup, 1) := by decide +kernel
theorem md_wordsOf_4 : decode mb_wordsOf 4 = .ok (.invokespecial 9, 3) := by decide +kernel
theorem md_wordsOf_7 : decode mb_wordsOf 7 = .ok (.astore_n 3, 1) := by decide +kernel
theorem md_wordsOf_8 : decode mb_wordsOf 8 = .ok (.aload_n 0, 1) := by decide +kernel
theorem md_wordsOf_9 : decode mb_wordsOf 9 = .ok (.invokevirtual 69, 3) := by decide +kernel
theorem md_wordsOf_12 : decode mb_wordsOf 12 = .ok (.astore 4, 2) := by decide +kernel
theorem md_wordsOf_14 : decode mb_wordsOf 14 = .ok (.aload 4, 2) := by decide +kernel
theorem md_wordsOf_16 : decode mb_wordsOf 16 = .ok (.invokeinterface 73 1, 5) := by decide +kernel
theorem md_wordsOf_21 : decode mb_wordsOf 21 = .ok (.ifCond .eq 41, 3) := by decide +kernel
theorem md_wordsOf_62 : decode mb_wordsOf 62 = .ok (.aload_n 3, 1) := by decide +kernel
theorem md_wordsOf_63 : decode mb_wordsOf 63 = .ok (.areturn, 1) := by decide +kernel
abbrev mb_periods : ByteArray := prog_10_method_60_code
def my_periods : MethodName := ⟨"TimeStoreModel", "periods", "([I)[I"⟩
theorem md_periods_0 : decode mb_periods 0 = .ok (.iconst 0, 1) := by decide +kernel
theorem md_periods_1 : decode mb_periods 1 = .ok (.istore_n 2, 1) := by decide +kernel
theorem md_periods_2 : decode mb_periods 2 = .ok (.bipush (-9), 2) := by decide +kernel
theorem md_periods_4 : decode mb_periods 4 = .ok (.istore_n 3, 1) := by decide +kernel
theorem md_periods_5 : decode mb_periods 5 = .ok (.bipush (-9), 2) := by decide +kernel
theorem md_periods_7 : decode mb_periods 7 = .ok (.istore 4, 2) := by decide +kernel
theorem md_periods_9 : decode mb_periods 9 = .ok (.aload_n 0, 1) := by decide +kernel
theorem md_periods_10 : decode mb_periods 10 = .ok (.aload_n 1, 1) := by decide +kernel
theorem md_periods_11 : decode mb_periods 11 = .ok (.invokevirtual 206, 3) := by decide +kernel
theorem md_periods_14 : decode mb_periods 14 = .ok (.astore 5, 2) := by decide +kernel
theorem md_periods_16 : decode mb_periods 16 = .ok (.aload_n 1, 1) := by decide +kernel
theorem md_periods_17 : decode mb_periods 17 = .ok (.iconst 2, 1) := by decide +kernel
theorem md_periods_18 : decode mb_periods 18 = .ok (.iaload, 1) := by decide +kernel
theorem md_periods_19 : decode mb_periods 19 = .ok (.istore 6, 2) := by decide +kernel
theorem md_periods_21 : decode mb_periods 21 = .ok (.iload 6, 2) := by decide +kernel
theorem md_periods_23 : decode mb_periods 23 = .ok (.aload_n 1, 1) := by decide +kernel
theorem md_periods_24 : decode mb_periods 24 = .ok (.iconst 3, 1) := by decide +kernel
theorem md_periods_25 : decode mb_periods 25 = .ok (.iaload, 1) := by decide +kernel
theorem md_periods_26 : decode mb_periods 26 = .ok (.if_icmp .gt 44, 3) := by decide +kernel
theorem md_periods_29 : decode mb_periods 29 = .ok (.aload 5, 2) := by decide +kernel
theorem md_periods_31 : decode mb_periods 31 = .ok (.aload_n 1, 1) := by decide +kernel
theorem md_periods_32 : decode mb_periods 32 = .ok (.iconst 1, 1) := by decide +kernel
theorem md_periods_33 : decode mb_periods 33 = .ok (.iaload, 1) := by decide +kernel
theorem md_periods_34 : decode mb_periods 34 = .ok (.iload 6, 2) := by decide +kernel
theorem md_periods_36 : decode mb_periods 36 = .ok (.invokestatic 210, 3) := by decide +kernel
theorem md_periods_39 : decode mb_periods 39 = .ok (.invokevirtual 119, 3) := by decide +kernel
theorem md_periods_42 : decode mb_periods 42 = .ok (.ifCond .ne 6, 3) := by decide +kernel
theorem md_periods_45 : decode mb_periods 45 = .ok (.goto 19, 3) := by decide +kernel
theorem md_periods_64 : decode mb_periods 64 = .ok (.iinc 6 1, 3) := by decide +kernel
theorem md_periods_67 : decode mb_periods 67 = .ok (.goto (-46), 3) := by decide +kernel
theorem md_periods_70 : decode mb_periods 70 = .ok (.iconst 3, 1) := by decide +kernel
theorem md_periods_71 : decode mb_periods 71 = .ok (.newarray .int, 2) := by decide +kernel
theorem md_periods_73 : decode mb_periods 73 = .ok (.dup, 1) := by decide +kernel
theorem md_periods_74 : decode mb_periods 74 = .ok (.iconst 0, 1) := by decide +kernel
theorem md_periods_75 : decode mb_periods 75 = .ok (.iload_n 2, 1) := by decide +kernel
theorem md_periods_76 : decode mb_periods 76 = .ok (.iastore, 1) := by decide +kernel
theorem md_periods_77 : decode mb_periods 77 = .ok (.dup, 1) := by decide +kernel
theorem md_periods_78 : decode mb_periods 78 = .ok (.iconst 1, 1) := by decide +kernel
theorem md_periods_79 : decode mb_periods 79 = .ok (.iload_n 3, 1) := by decide +kernel
theorem md_periods_80 : decode mb_periods 80 = .ok (.iastore, 1) := by decide +kernel
theorem md_periods_81 : decode mb_periods 81 = .ok (.dup, 1) := by decide +kernel
theorem md_periods_82 : decode mb_periods 82 = .ok (.iconst 2, 1) := by decide +kernel
theorem md_periods_83 : decode mb_periods 83 = .ok (.iload 4, 2) := by decide +kernel
theorem md_periods_85 : decode mb_periods 85 = .ok (.iastore, 1) := by decide +kernel
theorem md_periods_86 : decode mb_periods 86 = .ok (.areturn, 1) := by decide +kernel
abbrev mb_mofWin : ByteArray := prog_10_method_64_code
def my_mofWin : MethodName := ⟨"TimeStoreModel", "ofWindow", "(II)I"⟩
theorem md_mofWin_0 : decode mb_mofWin 0 = .ok (.aload_n 0, 1) := by decide +kernel
theorem md_mofWin_1 : decode mb_mofWin 1 = .ok (.aload_n 0, 1) := by decide +kernel
theorem md_mofWin_2 : decode mb_mofWin 2 = .ok (.iload_n 1, 1) := by decide +kernel
theorem md_mofWin_3 : decode mb_mofWin 3 = .ok (.invokevirtual 214, 3) := by decide +kernel
theorem md_mofWin_6 : decode mb_mofWin 6 = .ok (.iconst 1, 1) := by decide +kernel
theorem md_mofWin_7 : decode mb_mofWin 7 = .ok (.invokevirtual 159, 3) := by decide +kernel
theorem md_mofWin_10 : decode mb_mofWin 10 = .ok (.ifCond .ne 26, 3) := by decide +kernel
theorem md_mofWin_13 : decode mb_mofWin 13 = .ok (.aload_n 0, 1) := by decide +kernel
theorem md_mofWin_14 : decode mb_mofWin 14 = .ok (.iload_n 2, 1) := by decide +kernel
theorem md_mofWin_15 : decode mb_mofWin 15 = .ok (.iconst 0, 1) := by decide +kernel
theorem md_mofWin_16 : decode mb_mofWin 16 = .ok (.bipush 6, 2) := by decide +kernel
theorem md_mofWin_18 : decode mb_mofWin 18 = .ok (.invokestatic 61, 3) := by decide +kernel
theorem md_mofWin_21 : decode mb_mofWin 21 = .ok (.ifCond .ne 7, 3) := by decide +kernel
theorem md_mofWin_28 : decode mb_mofWin 28 = .ok (.iconst 0, 1) := by decide +kernel
theorem md_mofWin_29 : decode mb_mofWin 29 = .ok (.iconst 2, 1) := by decide +kernel
theorem md_mofWin_30 : decode mb_mofWin 30 = .ok (.invokevirtual 57, 3) := by decide +kernel
theorem md_mofWin_33 : decode mb_mofWin 33 = .ok (.ifCond .eq 5, 3) := by decide +kernel
theorem md_mofWin_38 : decode mb_mofWin 38 = .ok (.aload_n 0, 1) := by decide +kernel
theorem md_mofWin_39 : decode mb_mofWin 39 = .ok (.getfield 47, 3) := by decide +kernel
theorem md_mofWin_42 : decode mb_mofWin 42 = .ok (.iload_n 1, 1) := by decide +kernel
theorem md_mofWin_43 : decode mb_mofWin 43 = .ok (.invokevirtual 126, 3) := by decide +kernel
theorem md_mofWin_46 : decode mb_mofWin 46 = .ok (.checkcast 83, 3) := by decide +kernel
theorem md_mofWin_49 : decode mb_mofWin 49 = .ok (.astore_n 3, 1) := by decide +kernel
theorem md_mofWin_50 : decode mb_mofWin 50 = .ok (.iload_n 2, 1) := by decide +kernel
theorem md_mofWin_51 : decode mb_mofWin 51 = .ok (.iconst 4, 1) := by decide +kernel
theorem md_mofWin_52 : decode mb_mofWin 52 = .ok (.if_icmp .ge 9, 3) := by decide +kernel
theorem md_mofWin_61 : decode mb_mofWin 61 = .ok (.aload_n 0, 1) := by decide +kernel
theorem md_mofWin_62 : decode mb_mofWin 62 = .ok (.aload_n 3, 1) := by decide +kernel
theorem md_mofWin_63 : decode mb_mofWin 63 = .ok (.invokevirtual 217, 3) := by decide +kernel
theorem md_mofWin_66 : decode mb_mofWin 66 = .ok (.iload_n 2, 1) := by decide +kernel
theorem md_mofWin_67 : decode mb_mofWin 67 = .ok (.iconst 4, 1) := by decide +kernel
theorem md_mofWin_68 : decode mb_mofWin 68 = .ok (.isub, 1) := by decide +kernel
theorem md_mofWin_69 : decode mb_mofWin 69 = .ok (.iaload, 1) := by decide +kernel
theorem md_mofWin_70 : decode mb_mofWin 70 = .ok (.ireturn, 1) := by decide +kernel
abbrev mb_lofWin : ByteArray := method_41_code
def my_lofWin : MethodName := ⟨"TimeStoreLaw", "ofWindow", "(LTimeStore;IILTimeStoreLaw$Out;)I"⟩
theorem md_lofWin_0 : decode mb_lofWin 0 = .ok (.aload_n 3, 1) := by decide +kernel
theorem md_lofWin_1 : decode mb_lofWin 1 = .ok (.aload_n 0, 1) := by decide +kernel
theorem md_lofWin_2 : decode mb_lofWin 2 = .ok (.iload_n 1, 1) := by decide +kernel
theorem md_lofWin_3 : decode mb_lofWin 3 = .ok (.iload_n 2, 1) := by decide +kernel
theorem md_lofWin_4 : decode mb_lofWin 4 = .ok (.invokevirtual 150, 3) := by decide +kernel
theorem md_lofWin_7 : decode mb_lofWin 7 = .ok (.i2l, 1) := by decide +kernel
theorem md_lofWin_8 : decode mb_lofWin 8 = .ok (.putfield 13, 3) := by decide +kernel
theorem md_lofWin_11 : decode mb_lofWin 11 = .ok (.goto 11, 3) := by decide +kernel
theorem md_lofWin_22 : decode mb_lofWin 22 = .ok (.iconst 0, 1) := by decide +kernel
theorem md_lofWin_23 : decode mb_lofWin 23 = .ok (.ireturn, 1) := by decide +kernel
abbrev mb_law : ByteArray := code
def my_law : MethodName := ⟨"TimeStoreLaw", "law", "([I)Z"⟩
theorem md_law_27 : decode mb_law 27 = .ok (.iload 4, 2) := by decide +kernel
theorem md_law_29 : decode mb_law 29 = .ok (.aload_n 0, 1) := by decide +kernel
theorem md_law_30 : decode mb_law 30 = .ok (.arraylength, 1) := by decide +kernel
theorem md_law_31 : decode mb_law 31 = .ok (.bipush 6, 2) := by decide +kernel
theorem md_law_33 : decode mb_law 33 = .ok (.isub, 1) := by decide +kernel
theorem md_law_34 : decode mb_law 34 = .ok (.if_icmp .gt 3041, 3) := by decide +kernel
theorem md_law_37 : decode mb_law 37 = .ok (.aload_n 0, 1) := by decide +kernel
theorem md_law_38 : decode mb_law 38 = .ok (.iload 4, 2) := by decide +kernel
theorem md_law_40 : decode mb_law 40 = .ok (.iaload, 1) := by decide +kernel
theorem md_law_41 : decode mb_law 41 = .ok (.bipush 63, 2) := by decide +kernel
theorem md_law_43 : decode mb_law 43 = .ok (.iand, 1) := by decide +kernel
theorem md_law_44 : decode mb_law 44 = .ok (.tableswitch 3025 0 59 #[256, 320, 396, 448, 500, 564, 604, 656, 696, 736, 788, 840, 904, 956, 996, 1024, 1064, 1092, 1120, 1148, 1188, 1216, 1229, 1242, 1306, 1346, 1422, 1502, 1554, 1618, 1682, 1734, 1798, 1850, 1926, 1954, 1994, 2034, 2074, 2114, 2166, 2206, 2246, 2298, 2350, 2390, 2430, 2470, 2522, 2586, 2638, 2690, 2718, 2798, 2826, 2866, 2894, 2958, 2998, 3011], 256) := by decide +kernel
theorem md_law_2250 : decode mb_law 2250 = .ok (.aload_n 1, 1) := by decide +kernel
theorem md_law_2251 : decode mb_law 2251 = .ok (.aload_n 0, 1) := by decide +kernel
theorem md_law_2252 : decode mb_law 2252 = .ok (.iload 4, 2) := by decide +kernel
theorem md_law_2254 : decode mb_law 2254 = .ok (.iconst 1, 1) := by decide +kernel
theorem md_law_2255 : decode mb_law 2255 = .ok (.iadd, 1) := by decide +kernel
theorem md_law_2256 : decode mb_law 2256 = .ok (.iaload, 1) := by decide +kernel
theorem md_law_2257 : decode mb_law 2257 = .ok (.aload_n 0, 1) := by decide +kernel
theorem md_law_2258 : decode mb_law 2258 = .ok (.iload 4, 2) := by decide +kernel
theorem md_law_2260 : decode mb_law 2260 = .ok (.iconst 2, 1) := by decide +kernel
theorem md_law_2261 : decode mb_law 2261 = .ok (.iadd, 1) := by decide +kernel
theorem md_law_2262 : decode mb_law 2262 = .ok (.iaload, 1) := by decide +kernel
theorem md_law_2263 : decode mb_law 2263 = .ok (.aload_n 3, 1) := by decide +kernel
theorem md_law_2264 : decode mb_law 2264 = .ok (.invokestatic 340, 3) := by decide +kernel
theorem md_law_2267 : decode mb_law 2267 = .ok (.istore 5, 2) := by decide +kernel
theorem md_law_2269 : decode mb_law 2269 = .ok (.aload_n 2, 1) := by decide +kernel
theorem md_law_2270 : decode mb_law 2270 = .ok (.aload_n 0, 1) := by decide +kernel
theorem md_law_2271 : decode mb_law 2271 = .ok (.iload 4, 2) := by decide +kernel
theorem md_law_2273 : decode mb_law 2273 = .ok (.iconst 1, 1) := by decide +kernel
theorem md_law_2274 : decode mb_law 2274 = .ok (.iadd, 1) := by decide +kernel
theorem md_law_2275 : decode mb_law 2275 = .ok (.iaload, 1) := by decide +kernel
theorem md_law_2276 : decode mb_law 2276 = .ok (.aload_n 0, 1) := by decide +kernel
theorem md_law_2277 : decode mb_law 2277 = .ok (.iload 4, 2) := by decide +kernel
theorem md_law_2279 : decode mb_law 2279 = .ok (.iconst 2, 1) := by decide +kernel
theorem md_law_2280 : decode mb_law 2280 = .ok (.iadd, 1) := by decide +kernel
theorem md_law_2281 : decode mb_law 2281 = .ok (.iaload, 1) := by decide +kernel
theorem md_law_2282 : decode mb_law 2282 = .ok (.invokevirtual 342, 3) := by decide +kernel
theorem md_law_2285 : decode mb_law 2285 = .ok (.istore 6, 2) := by decide +kernel
theorem md_law_2287 : decode mb_law 2287 = .ok (.goto 782, 3) := by decide +kernel
theorem md_law_3069 : decode mb_law 3069 = .ok (.iinc 4 6, 3) := by decide +kernel
theorem md_law_3072 : decode mb_law 3072 = .ok (.goto (-3045), 3) := by decide +kernel
def my_i_hasNext : MethodName := ⟨"java/util/Iterator", "hasNext", "()Z"⟩
def my_i_next : MethodName := ⟨"java/util/Iterator", "next", "()Ljava/lang/Object;"⟩
def rf_W0 : List Cond := [.fieldLink "TimeStoreModel" 53 "TimeStoreModel" "thrown" "I", .methodLink "TimeStoreModel" 57 my_refuse, .code my_refuse mb_refuse 3 (some .boolean), .initialized "TimeStoreModel", .instanceMethod my_refuse, .selects "TimeStoreModel" my_refuse my_refuse, .fieldLink "java/util/ArrayList" 48 "java/util/ArrayList" "size" "I", .fieldLink "TimeStoreModel" 47 "TimeStoreModel" "windows" "Ljava/util/ArrayList;", .methodLink "TimeStoreModel" 119 my_size, .code my_size mb_size 1 (some .int), .initialized "java/util/ArrayList", .instanceMethod my_size, .selects "java/util/ArrayList" my_size my_size, .methodLink "TimeStoreModel" 61 my_isIn, .code my_isIn mb_isIn 3 (some .boolean), .static my_isIn, .methodLink "java/util/Objects" 105 my_preCheck, .code my_preCheck mb_preCheck 3 (some .int), .initialized "jdk/internal/util/Preconditions", .static my_preCheck, .fieldLink "java/util/ArrayList" 9 "java/util/ArrayList" "elementData" "[Ljava/lang/Object;", .methodLink "java/util/ArrayList" 118 my_objCheck, .code my_objCheck mb_objCheck 2 (some .int), .initialized "java/util/Objects", .static my_objCheck, .methodLink "java/util/ArrayList" 123 my_elemData, .code my_elemData mb_elemData 2 (some (.object "java/lang/Object")), .instanceMethod my_elemData, .selects "java/util/ArrayList" my_elemData my_elemData, .fieldLink "TimeStoreModel" 10 "TimeStoreModel" "first" "Ljava/util/ArrayList;", .fieldLink "TimeStore" 261 "TimeStore" "windowCount" "I", .fieldLink "TimeStore" 14 "TimeStore" "zero" "LTimeStore$Store;", .fieldLink "TimeStore$Words" 17 "TimeStore$Words" "size" "I", .fieldLink "TimeStore$Words" 9 "TimeStore$Words" "row" "[J", .methodLink "TimeStore$Words" 41 my_pack, .code my_pack mb_pack 7 (some .long), .initialized "TimeStore$Words", .static my_pack, .methodLink "TimeStore$Words" 45 my_placeOf, .code my_placeOf mb_placeOf 7 (some .int)]
def rf_W1 : List Cond := [.instanceMethod my_placeOf, .selects "TimeStore$Words" my_placeOf my_placeOf, .fieldLinkNest "TimeStore" 291 "TimeStore$Window" "store" "I" "TimeStore", .methodLink "TimeStore" 83 my_storeAt, .code my_storeAt mb_storeAt 2 (some (.object "TimeStore$Store")), .initialized "TimeStore", .instanceMethod my_storeAt, .selects "TimeStore" my_storeAt my_storeAt, .fieldLinkNest "TimeStore" 113 "TimeStore$Store" "words" "LTimeStore$Words;" "TimeStore", .fieldLinkNest "TimeStore" 294 "TimeStore$Window" "key" "I" "TimeStore", .fieldLinkNest "TimeStore" 281 "TimeStore$Window" "from" "I" "TimeStore", .methodLink "TimeStore" 186 my_firstAb, .code my_firstAb mb_firstAb 3 (some .int), .instanceMethod my_firstAb, .selects "TimeStore$Words" my_firstAb my_firstAb, .fieldLinkNest "TimeStore" 284 "TimeStore$Window" "to" "I" "TimeStore", .methodLink "TimeStore" 275 my_needWin, .code my_needWin mb_needWin 2 none, .instanceMethod my_needWin, .selects "TimeStore" my_needWin my_needWin, .methodLink "TimeStore" 337 my_needWhat, .code my_needWhat mb_needWhat 2 none, .static my_needWhat, .fieldLink "TimeStore" 54 "TimeStore" "windows" "[LTimeStore$Window;", .methodLink "TimeStore" 418 my_endPer, .code my_endPer mb_endPer 6 (some .int), .instanceMethod my_endPer, .selects "TimeStore" my_endPer my_endPer, .methodLink "java/util/AbstractCollection" 1 Lib.objectInit, .instanceMethod Lib.objectInit, .code Lib.objectInit ⟨#[0xb1]⟩ 1 none, .methodLink "java/util/AbstractList" 1 my_abcInit, .code my_abcInit mb_abcInit 1 none, .initialized "java/util/AbstractCollection", .instanceMethod my_abcInit, .fieldLink "java/util/AbstractList" 7 "java/util/AbstractList" "modCount" "I", .methodLink "java/util/ArrayList" 1 my_ablInit, .code my_ablInit mb_ablInit 1 none, .initialized "java/util/AbstractList", .instanceMethod my_ablInit]
def rf_W2 : List Cond := [.fieldLink "java/util/ArrayList" 39 "java/util/ArrayList" "DEFAULTCAPACITY_EMPTY_ELEMENTDATA" "[Ljava/lang/Object;", .fieldLink "java/util/ArrayList$Itr" 1 "java/util/ArrayList$Itr" "this$0" "Ljava/util/ArrayList;", .methodLink "java/util/ArrayList$Itr" 7 Lib.objectInit, .fieldLink "java/util/ArrayList$Itr" 13 "java/util/ArrayList$Itr" "lastRet" "I", .fieldLink "java/util/ArrayList$Itr" 17 "java/util/ArrayList" "modCount" "I", .fieldLink "java/util/ArrayList$Itr" 22 "java/util/ArrayList$Itr" "expectedModCount" "I", .classLink "java/util/ArrayList" 267 "java/util/ArrayList$Itr", .instantiable "java/util/ArrayList$Itr" 4, .initialized "java/util/ArrayList$Itr", .methodLink "java/util/ArrayList" 269 my_itrInit, .code my_itrInit mb_itrInit 2 none, .instanceMethod my_itrInit, .fieldLink "java/util/ArrayList$Itr" 25 "java/util/ArrayList$Itr" "cursor" "I", .fieldLinkNest "java/util/ArrayList$Itr" 28 "java/util/ArrayList" "size" "I" "java/util/ArrayList", .methodLink "java/util/ArrayList$Itr" 31 my_checkMod, .code my_checkMod mb_checkMod 1 none, .instanceMethod my_checkMod, .selects "java/util/ArrayList$Itr" my_checkMod my_checkMod, .fieldLink "java/util/ArrayList$Itr" 37 "java/util/ArrayList" "elementData" "[Ljava/lang/Object;", .classLink "TimeStoreModel" 7 "java/util/ArrayList", .instantiable "java/util/ArrayList" 3, .methodLink "TimeStoreModel" 9 my_alInit, .code my_alInit mb_alInit 1 none, .instanceMethod my_alInit, .methodLink "TimeStoreModel" 115 my_of, .code my_of mb_of 2 (some (.object "java/util/ArrayList")), .instanceMethod my_of, .selects "TimeStoreModel" my_of my_of, .methodLink "TimeStoreModel" 69 my_iterator, .code my_iterator mb_iterator 1 (some (.object "java/util/Iterator")), .instanceMethod my_iterator, .selects "java/util/ArrayList" my_iterator my_iterator, .methodLink "TimeStoreModel" 73 my_i_hasNext, .code my_hasNext mb_hasNext 1 (some .boolean), .instanceMethod my_hasNext, .selects "java/util/ArrayList$Itr" my_i_hasNext my_hasNext, .methodLink "TimeStoreModel" 79 my_i_next, .code my_next mb_next 3 (some (.object "java/lang/Object")), .instanceMethod my_next, .selects "java/util/ArrayList$Itr" my_i_next my_next]
def rf_W3 : List Cond := [.classLink "TimeStoreModel" 83 "[I", .methodLink "TimeStoreModel" 210 my_wordsOf, .code my_wordsOf mb_wordsOf 6 (some (.object "java/util/ArrayList")), .static my_wordsOf, .methodLink "TimeStoreModel" 206 my_seen, .code my_seen mb_seen 5 (some (.object "java/util/ArrayList")), .instanceMethod my_seen, .selects "TimeStoreModel" my_seen my_seen, .methodLink "TimeStoreModel" 214 my_isNoWin, .code my_isNoWin mb_isNoWin 2 (some .boolean), .instanceMethod my_isNoWin, .selects "TimeStoreModel" my_isNoWin my_isNoWin, .methodLink "TimeStoreModel" 159 my_start, .code my_start mb_start 3 (some .boolean), .instanceMethod my_start, .selects "TimeStoreModel" my_start my_start, .methodLink "TimeStoreModel" 126 my_get, .code my_get mb_get 2 (some (.object "java/lang/Object")), .instanceMethod my_get, .selects "java/util/ArrayList" my_get my_get, .methodLink "TimeStoreModel" 217 my_periods, .code my_periods mb_periods 7 (some (.array .int)), .instanceMethod my_periods, .selects "TimeStoreModel" my_periods my_periods, .codeWith my_lofWin mb_lofWin 5 (some .int) [(0, 11, 14, 19), (0, 11, 18, 21)], .methodLink "TimeStoreLaw" 340 my_lofWin, .initialized "TimeStoreLaw", .static my_lofWin, .methodLink "TimeStoreLaw" 150 my_cofWin, .code my_cofWin mb_cofWin 4 (some .int), .instanceMethod my_cofWin, .selects "TimeStore" my_cofWin my_cofWin, .fieldLinkNest "TimeStoreLaw" 13 "TimeStoreLaw$Out" "n" "J" "TimeStoreLaw", .methodLink "TimeStoreLaw" 342 my_mofWin, .code my_mofWin mb_mofWin 4 (some .int), .instanceMethod my_mofWin, .selects "TimeStoreModel" my_mofWin my_mofWin, .arrayClass .int]
def rf_W : List Cond := rf_W0 ++ (rf_W1 ++ (rf_W2 ++ (rf_W3)))
def rf_X : List Cond := [.declares my_i_hasNext, .interfaceMethod "java/util/Iterator" "java/util/Iterator" "hasNext" "()Z", .publicMethod my_hasNext, .unhidden "java/util/ArrayList$Itr" "hasNext" "()Z", .castable "java/util/ArrayList$Itr" "java/util/Iterator", .declares my_i_next, .interfaceMethod "java/util/Iterator" "java/util/Iterator" "next" "()Ljava/lang/Object;", .publicMethod my_next, .unhidden "java/util/ArrayList$Itr" "next" "()Ljava/lang/Object;"]
/-- a field: class of the reference, name, descriptor; its slot, its class's number, final, its type -/
abbrev rf_Fd : Type := String × String × String × Nat × Nat × Bool × FieldType
abbrev qf_TimeStore_zero : rf_Fd := ("TimeStore", "zero", "LTimeStore$Store;", 0, 2, true, .object "TimeStore$Store")
abbrev qf_TimeStore_windows : rf_Fd := ("TimeStore", "windows", "[LTimeStore$Window;", 11, 2, true, .array (.object "TimeStore$Window"))
abbrev qf_TimeStore_windowCount : rf_Fd := ("TimeStore", "windowCount", "I", 12, 2, false, .int)
abbrev qf_TimeStoreWindow_store : rf_Fd := ("TimeStore$Window", "store", "I", 0, 7, false, .int)
abbrev qf_TimeStoreWindow_key : rf_Fd := ("TimeStore$Window", "key", "I", 1, 7, false, .int)
abbrev qf_TimeStoreWindow_from : rf_Fd := ("TimeStore$Window", "from", "I", 2, 7, false, .int)
abbrev qf_TimeStoreWindow_to : rf_Fd := ("TimeStore$Window", "to", "I", 3, 7, false, .int)
abbrev qf_TimeStoreStore_words : rf_Fd := ("TimeStore$Store", "words", "LTimeStore$Words;", 1, 3, true, .object "TimeStore$Words")
abbrev qf_TimeStoreWords_row : rf_Fd := ("TimeStore$Words", "row", "[J", 0, 4, false, .array .long)
abbrev qf_TimeStoreWords_size : rf_Fd := ("TimeStore$Words", "size", "I", 1, 4, false, .int)
abbrev qf_TimeStoreModel_thrown : rf_Fd := ("TimeStoreModel", "thrown", "I", 0, 9, false, .int)
abbrev qf_TimeStoreModel_first : rf_Fd := ("TimeStoreModel", "first", "Ljava/util/ArrayList;", 4, 9, true, .object "java/util/ArrayList")
abbrev qf_TimeStoreModel_windows : rf_Fd := ("TimeStoreModel", "windows", "Ljava/util/ArrayList;", 15, 9, true, .object "java/util/ArrayList")
abbrev qf_AbstractList_modCount : rf_Fd := ("java/util/AbstractList", "modCount", "I", 0, 43, false, .int)
abbrev qf_ArrayList_modCount : rf_Fd := ("java/util/ArrayList", "modCount", "I", 0, 43, false, .int)
abbrev qf_ArrayList_elementData : rf_Fd := ("java/util/ArrayList", "elementData", "[Ljava/lang/Object;", 1, 47, false, .array (.object "java/lang/Object"))
abbrev qf_ArrayList_size : rf_Fd := ("java/util/ArrayList", "size", "I", 2, 47, false, .int)
abbrev qf_ArrayListItr_cursor : rf_Fd := ("java/util/ArrayList$Itr", "cursor", "I", 0, 31, false, .int)
abbrev qf_ArrayListItr_lastRet : rf_Fd := ("java/util/ArrayList$Itr", "lastRet", "I", 1, 31, false, .int)
abbrev qf_ArrayListItr_expectedModCount : rf_Fd := ("java/util/ArrayList$Itr", "expectedModCount", "I", 2, 31, false, .int)
abbrev qf_ArrayListItr_this0 : rf_Fd := ("java/util/ArrayList$Itr", "this$0", "Ljava/util/ArrayList;", 3, 31, true, .object "java/util/ArrayList")
abbrev qf_TimeStoreLawOut_n : rf_Fd := ("TimeStoreLaw$Out", "n", "J", 0, 10, false, .long)
def rf_FL : List rf_Fd := [qf_TimeStore_zero, qf_TimeStore_windows, qf_TimeStore_windowCount, qf_TimeStoreWindow_store, qf_TimeStoreWindow_key, qf_TimeStoreWindow_from, qf_TimeStoreWindow_to, qf_TimeStoreStore_words, qf_TimeStoreWords_row, qf_TimeStoreWords_size, qf_TimeStoreModel_thrown, qf_TimeStoreModel_first, qf_TimeStoreModel_windows, qf_AbstractList_modCount, qf_ArrayList_modCount, qf_ArrayList_elementData, qf_ArrayList_size, qf_ArrayListItr_cursor, qf_ArrayListItr_lastRet, qf_ArrayListItr_expectedModCount, qf_ArrayListItr_this0, qf_TimeStoreLawOut_n]
/-- a class: name, number, the types of its objects' slots -/
abbrev qc_TimeStore : String × Nat × List FieldType := ("TimeStore", 2, [.object "TimeStore$Store", .object "TimeStore$Store", .object "TimeStore$Words", .object "TimeStore$Words", .object "TimeStore$Words", .array .int, .array .long, .array .long, .int, .array (.object "TimeStore$Watcher"), .int, .array (.object "TimeStore$Window"), .int, .array (.object "TimeStore$Snapshot"), .int, .int, .int])
abbrev qc_TimeStoreWindow : String × Nat × List FieldType := ("TimeStore$Window", 7, [.int, .int, .int, .int])
abbrev qc_TimeStoreWords : String × Nat × List FieldType := ("TimeStore$Words", 4, [.array .long, .int])
abbrev qc_TimeStoreModel : String × Nat × List FieldType := ("TimeStoreModel", 9, [.int, .int, .int, .long, .object "java/util/ArrayList", .object "java/util/ArrayList", .object "java/util/ArrayList", .array .int, .array .int, .array .int, .array .int, .object "java/util/ArrayList", .object "java/util/ArrayList", .object "java/util/ArrayList", .object "java/util/ArrayList", .object "java/util/ArrayList", .object "java/util/ArrayList"])
abbrev qc_TimeStoreLawOut : String × Nat × List FieldType := ("TimeStoreLaw$Out", 10, [.long, .object "java/lang/String"])
abbrev qc_ArrayList : String × Nat × List FieldType := ("java/util/ArrayList", 47, [.int, .array (.object "java/lang/Object"), .int])
abbrev qc_ArrayListItr : String × Nat × List FieldType := ("java/util/ArrayList$Itr", 31, [.int, .int, .int, .object "java/util/ArrayList"])
def rf_CL : List (String × Nat × List FieldType) := [qc_TimeStore, qc_TimeStoreWindow, qc_TimeStoreWords, qc_TimeStoreModel, qc_TimeStoreLawOut, qc_ArrayList, qc_ArrayListItr]
/-- array classes: number, the components' type -/
def rf_AL : List (Nat × FieldType) := [(49, .int), (51, .long), (55, .object "TimeStore$Window"), (57, .object "java/lang/Object")]
end
section
/-! RULES OVER CELLS -/
def rf_good : Cond → Bool
  | .arrayClass _ => true
  | w => w.onTables && (w.keeps || w.keepsH)
def rb_fld (U : State) (q : rf_Fd) : Bool := match U.fieldFound? q.1 q.2.1 q.2.2.1 with
  | some (cf, _, _, f) => (cf == q.2.2.2.2.1) && (!f.isStatic && ((f.slot == q.2.2.2.1) && ((hasFlag f.accessFlags Acc.final == q.2.2.2.2.2.1) && decide (f.type = q.2.2.2.2.2.2))))
  | none => false
def rb_cls (U : State) (q : String × Nat × List FieldType) : Bool := decide (U.vm.findClass q.1 = some q.2.1) && match U.vm.classes[q.2.1]? with
  | some k => (match k.kind with | .ordinary => true | _ => false) && decide (k.instanceTypes.toList = q.2.2)
  | none => false
def rb_arr (U : State) (q : Nat × FieldType) : Bool := match U.vm.classes[q.1]? with
  | some k => (match k.kind with | .array _ t => decide (t = q.2) | _ => false)
  | none => false
/-- where ArrayList's static row lies -/
def rb_sta (U : State) : Bool := match U.fieldFound? "java/util/ArrayList" "DEFAULTCAPACITY_EMPTY_ELEMENTDATA" "[Ljava/lang/Object;" with
  | some (_, k, _, f) => f.isStatic && (decide (k.init = .initialized) && (decide (k.statics = some 6) && (f.slot == 3)))
  | none => false
/-- what is known of the tables -/
def rK (t0 : State) : Prop := (∀ w ∈ rf_W, rf_good w = true ∧ w.before #[] t0 = true) ∧ (∀ q ∈ rf_FL, rb_fld t0 q = true) ∧ (∀ q ∈ rf_CL, rb_cls t0 q = true) ∧ (∀ q ∈ rf_AL, rb_arr t0 q = true) ∧ (rb_sta t0 = true ∧ t0.vm.findClass "[I" = some 49) ∧ ∀ w ∈ rf_X, w.onTables = true ∧ w.before #[] t0 = true
theorem rg_word {s U : State} (hW : s.WarmedH U.vm) {w : Cond} (hg : rf_good w = true) {a a' : Array Value} (h : w.before a s = true) : w.before a' U = true := by
  by_cases hz : (w.onTables && w.keeps) = true
  · exact word_at hW (Or.inl hz) h
  · by_cases hz2 : ∃ ty, w = .arrayClass ty
    · exact word_at hW (Or.inr hz2) h
    · have hq : w.onTables = true ∧ w.keepsH = true := by
        cases w <;> simp_all [rf_good]
      have h1 := Cond.onTables_warmH (T := U) (args' := a') hW hq.1 hq.2 h
      exact h1
theorem rw_at {t0 s : State} (hk : rK t0) (hW : t0.WarmedH s.vm) {w : Cond} (h : w ∈ rf_W) (a : Array Value) : w.before a s = true := rg_word hW (hk.1 w h).1 (hk.1 w h).2
theorem rw_up {t0 s : State} (hk : rK t0) (hW : t0.WarmedH s.vm) {w : Cond} (h : w ∈ rf_W) : ∀ (a : Array Value) (U : State), s.WarmedH U.vm → w.before a U = true :=
  fun a U hU => rw_at hk (State.WarmedH.trans hW hU) h a
theorem rg_fld {t0 s : State} (hk : rK t0) (hW : t0.WarmedH s.vm) {q : rf_Fd} (h : q ∈ rf_FL) : ∃ (k : Class) (i : Nat) (f : Field), s.fieldFound? q.1 q.2.1 q.2.2.1 = some (q.2.2.2.2.1, k, i, f) ∧ f.isStatic = false ∧ f.slot = q.2.2.2.1 ∧ hasFlag f.accessFlags Acc.final = q.2.2.2.2.2.1 ∧ f.type = q.2.2.2.2.2.2 := by
  have h1 := hk.2.1 q h
  unfold rb_fld at h1
  split at h1
  · rename_i cf k i f hf
    simp only [Bool.and_eq_true, beq_iff_eq, Bool.not_eq_true', decide_eq_true_eq] at h1
    obtain ⟨k', hk', -⟩ := State.fieldFound?_setVm (s := t0) (hW.alike) hf
    refine ⟨k', i, f, ?_, h1.2.1, h1.2.2.1, h1.2.2.2.1, h1.2.2.2.2⟩
    rw [← h1.1]
    simpa only [State.fieldFound?, State.vm_setVm] using hk'
  · cases h1
theorem rg_cls {t0 s : State} (hk : rK t0) (hW : t0.WarmedH s.vm) {q : String × Nat × List FieldType} (h : q ∈ rf_CL) : s.vm.findClass q.1 = some q.2.1 ∧ ∃ k : Class, s.vm.classes[q.2.1]? = some k ∧ k.kind = .ordinary ∧ k.instanceTypes.toList = q.2.2 := by
  have h1 := hk.2.2.1 q h
  unfold rb_cls at h1
  simp only [Bool.and_eq_true, decide_eq_true_eq] at h1
  obtain ⟨h1, h2⟩ := h1
  refine ⟨by rw [hW.alike.findClass]; exact h1, ?_⟩
  split at h2
  · rename_i k hkc
    simp only [Bool.and_eq_true, decide_eq_true_eq] at h2
    obtain ⟨k', hk', he⟩ := hW.alike.2.2 _ _ hkc
    refine ⟨k', hk', ?_, by rw [he]; exact h2.2⟩
    rw [he]
    have h3 := h2.1
    show k.kind = .ordinary
    split at h3
    · assumption
    · cases h3
  · cases h2
theorem rg_arr {t0 s : State} (hk : rK t0) (hW : t0.WarmedH s.vm) {q : Nat × FieldType} (h : q ∈ rf_AL) : ∃ (k : Class) (comp : ClassId), s.vm.classes[q.1]? = some k ∧ k.kind = .array comp q.2 := by
  have h1 := hk.2.2.2.1 q h
  unfold rb_arr at h1
  split at h1
  · rename_i k hkc
    obtain ⟨k', hk', he⟩ := hW.alike.2.2 _ _ hkc
    split at h1
    · rename_i comp t hkd
      have e : t = q.2 := of_decide_eq_true h1
      exact ⟨k', comp, hk', by rw [he, ← e]; exact hkd⟩
    · cases h1
  · cases h1
/-- a cell: its class's number, how many slots, what some of them hold -/
def rc_at (H : Heap) (a k n : Nat) (vs : List (Nat × Value)) : Prop := ∃ c : Cell, H[a]? = some c ∧ c.cls = k ∧ c.vm = .none ∧ c.slots.size = n ∧ ∀ q ∈ vs, c.slots[q.1]? = some q.2
theorem rc_at.kept {H H1 : Heap} {a k n : Nat} {vs : List (Nat × Value)} (h : rc_at H a k n vs) (e : H1[a]? = H[a]?) : rc_at H1 a k n vs := by
  obtain ⟨c, h1, h2⟩ := h
  exact ⟨c, e.trans h1, h2⟩
theorem rc_at.lt {H : Heap} {a k n : Nat} {vs : List (Nat × Value)} (h : rc_at H a k n vs) : a < H.size := by
  obtain ⟨c, h1, -⟩ := h
  exact (Array.getElem?_eq_some_iff.mp h1).1
def rP (t0 : State) (av : List Value) (B : Heap → Prop) : Array Value → State → Prop := fun v U => v = av.toArray ∧ t0.WarmedH U.vm ∧ B U.heap
def rQ (post : Heap → Option Value → Heap → Prop) : Array Value → State → Outcome → State → Prop := fun _ st o t => ∃ v, o = .returned v ∧ post st.heap v t.heap
abbrev rRm (fr lo mc ms : Nat) : Room := { frames := fr, cells := mc, slots := ms, locals := lo }
/-- a contract that speaks of cells alone, behind the state t0 -/
def RM (t0 : State) (y : MethodName) (b : ByteArray) (maxL : Nat) (ret : Option FieldType) (fr lo mc ms : Nat) (av : List Value) (B : Heap → Prop) (post : Heap → Option Value → Heap → Prop) (free : Addr → Prop) : Prop :=
  Met launch0 y [.code y b maxL ret] (rRm fr lo mc ms) (rP t0 av B) (rQ post) mc ms free
theorem rg_body {t0 : State} {y : MethodName} {b : ByteArray} {maxL : Nat} {ret : Option FieldType} {fr lo mc ms : Nat} {av : List Value} {B : Heap → Prop} {post : Heap → Option Value → Heap → Prop} {free : Addr → Prop} (hy : plainName y.cls = true) (hn : (lg_sl av).length ≤ maxL)
    (h : ∀ (p : Program) (e : Env) (s : State) (m : MethodId) (below : List Frame) (meth : Method) (c : Code) (ls : Array Slot), p.tables.exec = Jvm.exec → c.code = b → c.maxLocals = maxL → meth.sig.returnType = ret → meth.locks = false → s.vm.findClass y.cls = some m.cls → meth.name = y.name → t0.WarmedH s.vm → B s.heap → lv_has ls maxL (lv_args 0 av) →
      W p launch0 e (rRm fr lo mc ms) s m av.toArray below meth c s.heap [] 0 0 (MQ below (rQ post) av.toArray s mc ms free) (F0 m 0 ls [])) : RM t0 y b maxL ret fr lo mc ms av B post free := by
  refine Met.ofW (cc := b) (maxL := maxL) (ret := ret) hy rfl ?_
  intro p e s m args below meth c s₁ BL hml hv
  obtain ⟨rfl, hW, hB⟩ := hv
  have hl := lv_entry av (n := maxL) hn
  have key := h p e s m below meth c _ BL.exec BL.bytes hml BL.returns BL.notSynchronized (findClass_of_methodNamed BL.named) (name_of_methodNamed BL.named BL.method).1 hW hB hl
  rw [lg_entry_eq]
  exact key
end
section
section RF
variable {t0 : State} {p : Program} {e : Env} {R : Room} {s : State} {m : MethodId} {args : Array Value} {below : List Frame} {meth : Method} {c : Code} {H : Heap} {locs : List Loc} {cells slots : Nat} {Q : State → Prop} {cc : ByteArray} {pc : Nat} {ls : Array Slot} {rest : List Value}
theorem rg_get (hk : rK t0) (hW : t0.WarmedH s.vm) (hx : p.tables.exec = Jvm.exec) (hb : c.code = cc) {own : String} (hown : s.vm.findClass own = some m.cls) {idx a k n : Nat} (q : rf_Fd) (hq : q ∈ rf_FL) (hl : Cond.fieldLink own idx q.1 q.2.1 q.2.2.1 ∈ rf_W) {vs : List (Nat × Value)} {v : Value} (hc : rc_at H a k n vs) (j : Nat) (hv : vs[j]? = some (q.2.2.2.1, v)) (hd : decode cc pc = .ok (.getfield idx, 3))
    (kk : W p launch0 e R s m args below meth c H locs cells slots Q (F0 m (pc + 3) ls (v :: rest))) : W p launch0 e R s m args below meth c H locs cells slots Q (F0 m pc ls (.ref a :: rest)) := by
  obtain ⟨k', i, f, hi, hst, hsl, -, -⟩ := rg_fld hk hW hq
  obtain ⟨cell, h1, h2, h3, h4, h5⟩ := hc
  refine W.getf hx hb hown (rw_at hk hW hl _) hi hst h1 (by rw [h3]; exact fun h => by cases h) (v := v) ?_ rfl rfl hd kk
  rw [hsl]; exact h5 _ (List.mem_of_getElem? hv)
theorem rg_getN (hk : rK t0) (hW : t0.WarmedH s.vm) (hx : p.tables.exec = Jvm.exec) (hb : c.code = cc) {own host : String} (hown : s.vm.findClass own = some m.cls) {idx a k n : Nat} (q : rf_Fd) (hq : q ∈ rf_FL) (hl : Cond.fieldLinkNest own idx q.1 q.2.1 q.2.2.1 host ∈ rf_W) {vs : List (Nat × Value)} {v : Value} (hc : rc_at H a k n vs) (j : Nat) (hv : vs[j]? = some (q.2.2.2.1, v)) (hd : decode cc pc = .ok (.getfield idx, 3))
    (kk : W p launch0 e R s m args below meth c H locs cells slots Q (F0 m (pc + 3) ls (v :: rest))) : W p launch0 e R s m args below meth c H locs cells slots Q (F0 m pc ls (.ref a :: rest)) := by
  obtain ⟨k', i, f, hi, hst, hsl, -, -⟩ := rg_fld hk hW hq
  obtain ⟨cell, h1, h2, h3, h4, h5⟩ := hc
  refine va_Wgetf hx hb hown (rw_at hk hW hl _) hi hst h1 (by rw [h3]; exact fun h => by cases h) (v := v) ?_ rfl rfl hd kk
  rw [hsl]; exact h5 _ (List.mem_of_getElem? hv)
theorem rc_same {cell : Cell} {H : Heap} {a i : Nat} {v : Value} (h1 : H[a]? = some cell) (h2 : cell.slots[i]? = some v) : H.setIfInBounds a (cell.setSlot i v) = H := by
  have e : cell.setSlot i v = cell := by
    have : cell.slots.setIfInBounds i v = cell.slots := by
      apply Array.ext
      · simp
      · intro j g1 g2
        rw [Array.getElem_setIfInBounds (by simpa using g2)]
        split
        · rename_i hij
          subst hij
          have := (Array.getElem?_eq_some_iff.mp h2).2
          exact this.symm
        · rfl
    unfold Cell.setSlot
    rw [this]
  rw [e]
  apply Array.ext
  · simp
  · intro j g1 g2
    rw [Array.getElem_setIfInBounds (by simpa using g2)]
    split
    · rename_i hij
      subst hij
      exact ((Array.getElem?_eq_some_iff.mp h1).2).symm
    · rfl
/-- a field is written: its cell's new contents; all else stays -/
theorem rg_put (hk : rK t0) (hW : t0.WarmedH s.vm) (hx : p.tables.exec = Jvm.exec) (hb : c.code = cc) {own : String} (hown : s.vm.findClass own = some m.cls) {idx a n : Nat} (q : rf_Fd) (hq : q ∈ rf_FL) (hl : Cond.fieldLink own idx q.1 q.2.1 q.2.2.1 ∈ rf_W) (cl : String × Nat × List FieldType) (hcl : cl ∈ rf_CL) (hty : cl.2.2[q.2.2.2.1]? = some q.2.2.2.2.2.2) (hsz : n = cl.2.2.length)
    (hfin : q.2.2.2.2.2.1 = false ∨ (meth.name = "<init>" ∧ q.2.2.2.2.1 = cl.2.1 ∧ cl.1 = own)) {vs : List (Nat × Value)} {v : Value} (hc : rc_at H a cl.2.1 n vs) (hn : narrow q.2.2.2.2.2.2 v = v) (hf : fits q.2.2.2.2.2.2 v = true) (hd : decode cc pc = .ok (.putfield idx, 3))
    (kk : ∀ H1 : Heap, H1.size = H.size → (∀ x, x ≠ a → H1[x]? = H[x]?) → rc_at H1 a cl.2.1 n ((q.2.2.2.1, v) :: vs.filter (fun z => z.1 != q.2.2.2.1)) → W p launch0 e R s m args below meth c H1 (locs ++ [⟨a, q.2.2.2.1⟩]) cells slots Q (F0 m (pc + 3) ls rest)) : W p launch0 e R s m args below meth c H locs cells slots Q (F0 m pc ls (v :: .ref a :: rest)) := by
  obtain ⟨k', i, f, hi, hst, hsl, hfl, hft⟩ := rg_fld hk hW hq
  obtain ⟨hfc, kC, hkC, hkind, htys⟩ := rg_cls hk hW hcl
  obtain ⟨cell, h1, h2, h3, h4, h5⟩ := hc
  have hlt : f.slot < cell.slots.size := by
    rw [hsl, h4, hsz]
    exact (List.getElem?_eq_some_iff.mp hty).1
  have hit : kC.instanceTypes[f.slot]? = some f.type := by
    rw [hsl, hft, ← Array.getElem?_toList, htys]; exact hty
  have hfs : s.fitsSlot cell.cls cell.vm f.slot v = true := by
    rw [h2, h3]
    exact fresh_fits (s := s) (U := s) (Vm.Alike.refl _) hkC hkind hit (by rw [hft]; exact hf)
  refine W.putf hx hb hown (rw_at hk hW hl _) hi hst ?_ h1 (by rw [h3]; exact fun h => by cases h) hlt (by rw [hft]; exact hn) hfs rfl rfl hd ?_
  · rcases hfin with h | ⟨g1, g2, g3⟩
    · exact Or.inl (by rw [hfl]; exact h)
    · refine Or.inr ⟨?_, g1⟩
      rw [g3] at hfc
      rw [g2]
      exact Option.some.inj (hown.symm.trans hfc)
  · rw [hsl]
    have ha : a < H.size := (Array.getElem?_eq_some_iff.mp h1).1
    refine kk _ (by simp) (fun x hx => by simp [Array.getElem?_setIfInBounds, Ne.symm hx]) ⟨cell.setSlot q.2.2.2.1 v, by simp [Array.getElem?_setIfInBounds, ha], h2, h3, ?_, ?_⟩
    · show (cell.slots.setIfInBounds _ _).size = n
      rw [Array.size_setIfInBounds]; exact h4
    · intro z hz
      rcases List.mem_cons.mp hz with rfl | hz
      · exact Cell.slots_setSlot_self v (by rw [← hsl]; exact hlt)
      · obtain ⟨z1, z2⟩ := List.mem_filter.mp hz
        have hne : z.1 ≠ q.2.2.2.1 := by simpa using z2
        rw [slot_ne _ _ (Ne.symm hne)]
        exact h5 z z1
/-- a field is written what it held -/
theorem rg_puts (hk : rK t0) (hW : t0.WarmedH s.vm) (hx : p.tables.exec = Jvm.exec) (hb : c.code = cc) {own : String} (hown : s.vm.findClass own = some m.cls) {idx a n : Nat} (q : rf_Fd) (hq : q ∈ rf_FL) (hl : Cond.fieldLink own idx q.1 q.2.1 q.2.2.1 ∈ rf_W) (cl : String × Nat × List FieldType) (hcl : cl ∈ rf_CL) (hty : cl.2.2[q.2.2.2.1]? = some q.2.2.2.2.2.2) (hsz : n = cl.2.2.length)
    (hfin : q.2.2.2.2.2.1 = false) {vs : List (Nat × Value)} {v : Value} (hc : rc_at H a cl.2.1 n vs) (j : Nat) (hv : vs[j]? = some (q.2.2.2.1, v)) (hn : narrow q.2.2.2.2.2.2 v = v) (hf : fits q.2.2.2.2.2.2 v = true) (hd : decode cc pc = .ok (.putfield idx, 3))
    (kk : W p launch0 e R s m args below meth c H (locs ++ [⟨a, q.2.2.2.1⟩]) cells slots Q (F0 m (pc + 3) ls rest)) : W p launch0 e R s m args below meth c H locs cells slots Q (F0 m pc ls (v :: .ref a :: rest)) := by
  obtain ⟨k', i, f, hi, hst, hsl, hfl, hft⟩ := rg_fld hk hW hq
  obtain ⟨hfc, kC, hkC, hkind, htys⟩ := rg_cls hk hW hcl
  obtain ⟨cell, h1, h2, h3, h4, h5⟩ := hc
  have hlt : f.slot < cell.slots.size := by
    rw [hsl, h4, hsz]
    exact (List.getElem?_eq_some_iff.mp hty).1
  have hit : kC.instanceTypes[f.slot]? = some f.type := by
    rw [hsl, hft, ← Array.getElem?_toList, htys]; exact hty
  have hfs : s.fitsSlot cell.cls cell.vm f.slot v = true := by
    rw [h2, h3]
    exact fresh_fits (s := s) (U := s) (Vm.Alike.refl _) hkC hkind hit (by rw [hft]; exact hf)
  refine W.putf hx hb hown (rw_at hk hW hl _) hi hst (Or.inl (by rw [hfl]; exact hfin)) h1 (by rw [h3]; exact fun h => by cases h) hlt (by rw [hft]; exact hn) hfs rfl rfl hd ?_
  rw [hsl, rc_same h1 (h5 _ (List.mem_of_getElem? hv))]
  exact kk
/-- a new object -/
theorem rg_new (hk : rK t0) (hW : t0.WarmedH s.vm) (hx : p.tables.exec = Jvm.exec) (hb : c.code = cc) {own : String} (hown : s.vm.findClass own = some m.cls) {idx n : Nat} (cl : String × Nat × List FieldType) (hcl : cl ∈ rf_CL) (hl : Cond.classLink own idx cl.1 ∈ rf_W) (hi : Cond.instantiable cl.1 n ∈ rf_W) (hn : Cond.initialized cl.1 ∈ rf_W) (hsz : n = cl.2.2.length) {vs : List (Nat × Value)} (hvs : vs.all (fun z => decide ((cl.2.2.map defaultValue)[z.1]? = some z.2)) = true) (hcells : cells + 1 ≤ R.cells) (hslots : slots + n ≤ R.slots) (hd : decode cc pc = .ok (.new idx, 3))
    (kk : ∀ H1 : Heap, H1.size = H.size + 1 → (∀ x, x < H.size → H1[x]? = H[x]?) → rc_at H1 H.size cl.2.1 n vs → W p launch0 e R s m args below meth c H1 locs (cells + 1) (slots + n) Q (F0 m (pc + 3) ls (.ref H.size :: rest))) : W p launch0 e R s m args below meth c H locs cells slots Q (F0 m pc ls rest) := by
  obtain ⟨hfc, kC0, hkC0, -, htys⟩ := rg_cls hk hW hcl
  refine W.newc hx hb hown (rw_at hk hW hl _) (rw_at hk hW hi _) (rw_at hk hW hn _) rfl hd hcells hslots (fun cC kC h1 h2 h3 h4 => ?_)
  cases hfc.symm.trans h1
  cases hkC0.symm.trans h2
  refine kk _ (by simp) (fun x hx => by rw [Array.getElem?_push, if_neg (by omega)]) ⟨{ cls := cl.2.1, slots := kC0.instanceTypes.map defaultValue, vm := .none }, by simp, rfl, rfl, by simpa using h4, ?_⟩
  intro z hz
  have h5 := List.all_eq_true.mp hvs z hz
  have h6 := of_decide_eq_true h5
  rw [← Array.getElem?_toList, Array.toList_map, htys]
  exact h6
/-- every call: what it leaves behind -/
theorem rg_call {mc ms : Nat} {g : JFrame} {Qa : State → Outcome → State → Prop} {post : Heap → Option Value → Heap → Prop} {free : Addr → Prop} (hr : CallRun p launch0 e R s m args below meth c H locs cells slots mc ms g rest Qa free) (hq : ∀ st o t, Qa st o t → ∃ v, o = .returned v ∧ post st.heap v t.heap)
    (kk : ∀ (v : Option Value) (H1 : Heap) (L : List Loc), post H v H1 → (∀ x ∈ L, free x.base) → W p launch0 e R s m args below meth c H1 (locs ++ L) (cells + mc) (slots + ms) Q { g with pc := g.pc + 3, stack := v.toList ++ rest }) : W p launch0 e R s m args below meth c H locs cells slots Q g := by
  intro T hT X
  obtain ⟨v, st₀, t, T', L, h0, X', hL, e1, hqa, st⟩ := hr T hT X
  obtain ⟨w, hw, hp⟩ := hq _ _ _ hqa
  cases hw
  rw [h0] at hp
  obtain ⟨t2, a1, b1⟩ := kk v T'.heap L (by rw [e1]; exact hp) hL T' rfl X'
  exact ⟨t2, st t2 a1, b1⟩
theorem rg_blind {av : List Value} {B : Heap → Prop} : FrameBlind (rP t0 av B) := fun a U g mk q => ⟨q.1, q.2.1, q.2.2⟩
theorem rg_cb (hk : rK t0) (hW : t0.WarmedH s.vm) {own : String} {idx : Nat} {y : MethodName} {b : ByteArray} {maxL : Nat} {ret : Option FieldType} {fr lo mc ms n : Nat} (hl : Cond.methodLink own idx y ∈ rf_W) (hco : Cond.code y b maxL ret ∈ rf_W) (hi : Cond.initialized y.cls ∈ rf_W)
    (hd : y.cls ≠ "java/lang/invoke/MethodHandle" ∧ y.cls ≠ "java/lang/invoke/VarHandle" ∧ (parseMethodDescriptor y.desc).map (fun d => d.parameters.length) = some n) (hR : fr + 1 ≤ R.frames ∧ 8 + (maxL + 11) + lo ≤ R.locals) :
    CallB R s args own idx y b maxL ret [.code y b maxL ret] (rRm fr lo mc ms) mc ms n := by
  refine ⟨rfl, rfl, hR.1, hR.2, ?_, List.mem_cons_self, rw_at hk hW hco _, rw_at hk hW hi _, ⟨hd.1, hd.2.1⟩, fun sig h => ?_, rw_at hk hW hl _⟩
  · intro w hw a' U hU
    rw [List.mem_singleton.mp hw]
    exact rw_up hk hW hco a' U hU
  · have h2 := hd.2.2
    rw [h] at h2
    exact (Option.some.inj h2).symm
/-- invokevirtual -/
theorem rg_cv (hk : rK t0) (hW : t0.WarmedH s.vm) (hx : p.tables.exec = Jvm.exec) (hb : c.code = cc) {nL : Nat} (hml : c.maxLocals = nL) (hsize : ls.size = nL) {own : String} (hown : s.vm.findClass own = some m.cls) {idx : Nat} {y : MethodName} {b : ByteArray} {maxL : Nat} {ret : Option FieldType} {fr lo mc ms n k a : Nat} {As : List Value} {B : Heap → Prop} {post : Heap → Option Value → Heap → Prop} {free : Addr → Prop} {vs : List (Nat × Value)} (hM : RM t0 y b maxL ret fr lo mc ms (.ref a :: As) B post free) (tys : List FieldType) (hcl : (y.cls, k, tys) ∈ rf_CL) (hc : rc_at H a k n vs) (hB : B H)
    (na : Nat) (hna : As.length = na)
    (hw : [Cond.methodLink own idx y, .code y b maxL ret, .initialized y.cls, .instanceMethod y, .selects y.cls y y].all (fun w => decide (w ∈ rf_W)) = true)
    (hd : y.cls ≠ "java/lang/invoke/MethodHandle" ∧ y.cls ≠ "java/lang/invoke/VarHandle" ∧ (parseMethodDescriptor y.desc).map (fun d => d.parameters.length) = some na) (hR : fr + 1 ≤ R.frames ∧ 8 + (maxL + 11) + lo ≤ R.locals) (hcat : (rest.map fun v => v.category).sum ≤ 8) (hf : cells + mc ≤ R.cells ∧ slots + ms ≤ R.slots) (hdg : decode cc pc = .ok (.invokevirtual idx, 3)) {st : List Value} (hst : st = As.reverse ++ .ref a :: rest)
    (kk : ∀ (v : Option Value) (H1 : Heap) (L : List Loc), post H v H1 → (∀ x ∈ L, free x.base) → W p launch0 e R s m args below meth c H1 (locs ++ L) (cells + mc) (slots + ms) Q (F0 m (pc + 3) ls (v.toList ++ rest))) : W p launch0 e R s m args below meth c H locs cells slots Q (F0 m pc ls st) := by
  simp only [List.all_cons, List.all_nil, Bool.and_true, Bool.and_eq_true, decide_eq_true_eq] at hw
  obtain ⟨w1, w2, w3, w4, w5⟩ := hw
  obtain ⟨cell, h1, h2, h3, -⟩ := hc
  obtain ⟨hfc, -⟩ := rg_cls hk hW hcl
  subst hst
  refine rg_call (W.runV (Ts := []) ⟨hx, hb, hml, hown, fun w h => absurd h List.not_mem_nil⟩ hM ⟨rg_cb hk hW w1 w2 w3 hd hR, rw_at hk hW w4 _, rw_at hk hW w5 _⟩ ⟨rg_blind, ⟨cell, h1, by rw [h3]; rfl, by rw [h2]; exact hfc⟩, fun U hU hU2 => ⟨rfl, State.WarmedH.trans hW hU2, by rw [hU]; exact hB⟩⟩ rfl hna hsize rfl (by show 2 * 0 + _ ≤ 8; omega) hdg hf) (fun st o t h => h) kk
/-- invokestatic -/
theorem rg_cs (hk : rK t0) (hW : t0.WarmedH s.vm) (hx : p.tables.exec = Jvm.exec) (hb : c.code = cc) {nL : Nat} (hml : c.maxLocals = nL) (hsize : ls.size = nL) {own : String} (hown : s.vm.findClass own = some m.cls) {idx : Nat} {y : MethodName} {b : ByteArray} {maxL : Nat} {ret : Option FieldType} {fr lo mc ms : Nat} {As : List Value} {B : Heap → Prop} {post : Heap → Option Value → Heap → Prop} {free : Addr → Prop} (hM : RM t0 y b maxL ret fr lo mc ms As B post free) (hB : B H)
    (na : Nat) (hna : As.length = na)
    (hw : [Cond.methodLink own idx y, .code y b maxL ret, .initialized y.cls, .static y].all (fun w => decide (w ∈ rf_W)) = true)
    (hd : y.cls ≠ "java/lang/invoke/MethodHandle" ∧ y.cls ≠ "java/lang/invoke/VarHandle" ∧ (parseMethodDescriptor y.desc).map (fun d => d.parameters.length) = some na) (hR : fr + 1 ≤ R.frames ∧ 8 + (maxL + 11) + lo ≤ R.locals) (hcat : (rest.map fun v => v.category).sum ≤ 8) (hf : cells + mc ≤ R.cells ∧ slots + ms ≤ R.slots) (hdg : decode cc pc = .ok (.invokestatic idx, 3)) {st : List Value} (hst : st = As.reverse ++ rest)
    (kk : ∀ (v : Option Value) (H1 : Heap) (L : List Loc), post H v H1 → (∀ x ∈ L, free x.base) → W p launch0 e R s m args below meth c H1 (locs ++ L) (cells + mc) (slots + ms) Q (F0 m (pc + 3) ls (v.toList ++ rest))) : W p launch0 e R s m args below meth c H locs cells slots Q (F0 m pc ls st) := by
  simp only [List.all_cons, List.all_nil, Bool.and_true, Bool.and_eq_true, decide_eq_true_eq] at hw
  obtain ⟨w1, w2, w3, w4⟩ := hw
  subst hst
  refine rg_call (W.runS (Ts := []) ⟨hx, hb, hml, hown, fun w h => absurd h List.not_mem_nil⟩ hM ⟨rg_cb hk hW w1 w2 w3 hd hR, rw_at hk hW w4 _⟩ ⟨rg_blind, fun U hU hU2 => ⟨rfl, State.WarmedH.trans hW hU2, by rw [hU]; exact hB⟩⟩ rfl hna hsize rfl (by show 2 * 0 + _ ≤ 8; omega) hdg hf) (fun st o t h => h) kk
/-- invokespecial of a constructor -/
theorem rg_ci (hk : rK t0) (hW : t0.WarmedH s.vm) (hx : p.tables.exec = Jvm.exec) (hb : c.code = cc) {nL : Nat} (hml : c.maxLocals = nL) (hsize : ls.size = nL) {own : String} (hown : s.vm.findClass own = some m.cls) {idx : Nat} {y : MethodName} {b : ByteArray} {maxL : Nat} {fr lo mc ms a : Nat} {As : List Value} {B : Heap → Prop} {post : Heap → Option Value → Heap → Prop} {free : Addr → Prop} (hM : RM t0 y b maxL none fr lo mc ms (.ref a :: As) B post free) (hB : B H) (hy1 : y.name = "<init>")
    (na : Nat) (hna : As.length = na)
    (hw : [Cond.methodLink own idx y, .code y b maxL none, .initialized y.cls, .instanceMethod y].all (fun w => decide (w ∈ rf_W)) = true)
    (hd : y.cls ≠ "java/lang/invoke/MethodHandle" ∧ y.cls ≠ "java/lang/invoke/VarHandle" ∧ (parseMethodDescriptor y.desc).map (fun d => d.parameters.length) = some na) (hR : fr + 1 ≤ R.frames ∧ 8 + (maxL + 11) + lo ≤ R.locals) (hcat : (rest.map fun v => v.category).sum ≤ 8) (hf : cells + mc ≤ R.cells ∧ slots + ms ≤ R.slots) (hdg : decode cc pc = .ok (.invokespecial idx, 3)) {st : List Value} (hst : st = As.reverse ++ .ref a :: rest)
    (kk : ∀ (v : Option Value) (H1 : Heap) (L : List Loc), post H v H1 → (∀ x ∈ L, free x.base) → W p launch0 e R s m args below meth c H1 (locs ++ L) (cells + mc) (slots + ms) Q (F0 m (pc + 3) ls (v.toList ++ rest))) : W p launch0 e R s m args below meth c H locs cells slots Q (F0 m pc ls st) := by
  simp only [List.all_cons, List.all_nil, Bool.and_true, Bool.and_eq_true, decide_eq_true_eq] at hw
  obtain ⟨w1, w2, w3, w4⟩ := hw
  subst hst
  refine rg_call (W.runI (Ts := []) ⟨hx, hb, hml, hown, fun w h => absurd h List.not_mem_nil⟩ hM ⟨rg_cb hk hW w1 w2 w3 hd hR, hy1, rw_at hk hW w4 _⟩ ⟨rg_blind, fun U hU hU2 => ⟨rfl, State.WarmedH.trans hW hU2, by rw [hU]; exact hB⟩⟩ rfl hna hsize rfl (by show 2 * 0 + _ ≤ 8; omega) hdg hf) (fun st o t h => h) kk
end RF
end
section
/-! THE CELLS behind the script's first two calls; arrays, the static row, calls through the interface -/
def rf_HL : List (Nat × Nat × Nat × List (Nat × Value)) := [
  (59, 2, 17, [(0, .ref 60), (11, .ref 100), (12, .int 1)]),
  (101, 7, 4, [(0, .int 0), (1, .int 0), (2, .int 1), (3, .int 999)]),
  (60, 3, 11, [(1, .ref 61)]),
  (61, 4, 2, [(0, .ref 62), (1, .int 1)]),
  (62, 51, 120, [(0, .long 7)]),
  (100, 55, 6, [(0, .ref 101)]),
  (126, 9, 17, [(0, .int 0), (4, .ref 127), (15, .ref 138)]),
  (138, 47, 3, [(0, .int 1), (1, .ref 147), (2, .int 1)]),
  (147, 57, 10, [(0, .ref 146)]),
  (146, 49, 4, [(0, .int 0), (1, .int 0), (2, .int 1), (3, .int 999)]),
  (127, 47, 3, [(0, .int 1), (1, .ref 143), (2, .int 1)]),
  (143, 57, 10, [(0, .ref 142)]),
  (142, 49, 5, [(0, .int 0), (1, .int 0), (2, .int 0)])]
def rHB (H : Heap) : Prop := 148 ≤ H.size ∧ (∀ z ∈ rf_HL, rc_at H z.1 z.2.1 z.2.2.1 z.2.2.2) ∧ ∃ c : Cell, H[6]? = some c ∧ c.vm = .statics 47 ∧ c.slots[3]? = some (.ref 9)
theorem rHB.at {H : Heap} (h : rHB H) (i : Nat) {z : Nat × Nat × Nat × List (Nat × Value)} (hz : rf_HL[i]? = some z) : rc_at H z.1 z.2.1 z.2.2.1 z.2.2.2 := h.2.1 z (List.mem_of_getElem? hz)
theorem rf_HL_lt : ∀ z ∈ rf_HL, z.1 < 148 ∧ z.1 ≠ 140 := by
  have h : rf_HL.all (fun z => decide (z.1 < 148) && decide (z.1 ≠ 140)) = true := by decide +kernel
  intro z hz
  have h1 := List.all_eq_true.mp h z hz
  simpa using h1
theorem rHB.kept {H H1 : Heap} (h : rHB H) (hs : H.size ≤ H1.size) (hk : ∀ q, q < H.size → q ≠ 140 → H1[q]? = H[q]?) : rHB H1 := by
  obtain ⟨h1, h2, c, h3, h4⟩ := h
  refine ⟨Nat.le_trans h1 hs, fun z hz => (h2 z hz).kept (hk _ ?_ (rf_HL_lt z hz).2), c, ?_, h4⟩
  · have := (rf_HL_lt z hz).1; omega
  · rw [hk 6 (by omega) (by decide)]; exact h3
theorem rc_at.sub {H : Heap} {a k n : Nat} {vs vs' : List (Nat × Value)} (h : rc_at H a k n vs) (is : List Nat) (hs : is.map (fun i => vs[i]?) = vs'.map some) : rc_at H a k n vs' := by
  obtain ⟨c, h1, h2, h3, h4, h5⟩ := h
  refine ⟨c, h1, h2, h3, h4, fun q hq => ?_⟩
  have h6 : some q ∈ is.map (fun i => vs[i]?) := by rw [hs]; exact List.mem_map.mpr ⟨q, hq, rfl⟩
  obtain ⟨i, -, hi⟩ := List.mem_map.mp h6
  exact h5 q (List.mem_of_getElem? hi)
section RF
variable {t0 : State} {p : Program} {e : Env} {R : Room} {s : State} {m : MethodId} {args : Array Value} {below : List Frame} {meth : Method} {c : Code} {H : Heap} {locs : List Loc} {cells slots : Nat} {Q : State → Prop} {cc : ByteArray} {pc : Nat} {ls : Array Slot} {rest : List Value}
theorem rg_isA (hk : rK t0) (hW : t0.WarmedH s.vm) {k : Nat} {ty : FieldType} (hA : (k, ty) ∈ rf_AL) {cell : Cell} (h2 : cell.cls = k) (h3 : cell.vm = .none) : s.isArrayOf cell ty := by
  obtain ⟨kc, comp, g1, g2⟩ := rg_arr hk hW hA
  exact ⟨(fun z hz => by rw [h3] at hz; cases hz), kc, by rw [h2]; exact g1, comp, g2⟩
theorem rg_iald (hk : rK t0) (hW : t0.WarmedH s.vm) (hx : p.tables.exec = Jvm.exec) (hb : c.code = cc) {a k n : Nat} (hA : (k, FieldType.int) ∈ rf_AL) {vs : List (Nat × Value)} {v : Value} {i : Int32} (hc : rc_at H a k n vs) (j : Nat) (hv : vs[j]? = some (i.toNatClampNeg, v)) (hin : ¬ (i < 0 ∨ n ≤ i.toNatClampNeg)) (hd : decode cc pc = .ok (.iaload, 1))
    (kk : W p launch0 e R s m args below meth c H locs cells slots Q (F0 m (pc + 1) ls (v :: rest))) : W p launch0 e R s m args below meth c H locs cells slots Q (F0 m pc ls (.int i :: .ref a :: rest)) := by
  obtain ⟨cell, h1, h2, h3, h4, h5⟩ := hc
  exact W.iald hx hb h1 (rg_isA hk hW hA h2 h3) (by rw [h3]; exact fun h => by cases h) (by rw [h4]; exact hin) (h5 _ (List.mem_of_getElem? hv)) rfl rfl hd kk
theorem rg_lald (hk : rK t0) (hW : t0.WarmedH s.vm) (hx : p.tables.exec = Jvm.exec) (hb : c.code = cc) {a k n : Nat} (hA : (k, FieldType.long) ∈ rf_AL) {vs : List (Nat × Value)} {v : Value} {i : Int32} (hc : rc_at H a k n vs) (j : Nat) (hv : vs[j]? = some (i.toNatClampNeg, v)) (hin : ¬ (i < 0 ∨ n ≤ i.toNatClampNeg)) (hd : decode cc pc = .ok (.laload, 1))
    (kk : W p launch0 e R s m args below meth c H locs cells slots Q (F0 m (pc + 1) ls (v :: rest))) : W p launch0 e R s m args below meth c H locs cells slots Q (F0 m pc ls (.int i :: .ref a :: rest)) := by
  obtain ⟨cell, h1, h2, h3, h4, h5⟩ := hc
  exact W.lald hx hb h1 (rg_isA hk hW hA h2 h3) (by rw [h3]; exact fun h => by cases h) (by rw [h4]; exact hin) (h5 _ (List.mem_of_getElem? hv)) rfl rfl hd kk
theorem rg_aald (hk : rK t0) (hW : t0.WarmedH s.vm) (hx : p.tables.exec = Jvm.exec) (hb : c.code = cc) {a k n : Nat} (ty : FieldType) (hA : (k, ty) ∈ rf_AL) (hty : ty.isReference = true) {vs : List (Nat × Value)} {v : Value} {i : Int32} (hc : rc_at H a k n vs) (j : Nat) (hv : vs[j]? = some (i.toNatClampNeg, v)) (hin : ¬ (i < 0 ∨ n ≤ i.toNatClampNeg)) (hd : decode cc pc = .ok (.aaload, 1))
    (kk : W p launch0 e R s m args below meth c H locs cells slots Q (F0 m (pc + 1) ls (v :: rest))) : W p launch0 e R s m args below meth c H locs cells slots Q (F0 m pc ls (.int i :: .ref a :: rest)) := by
  obtain ⟨cell, h1, h2, h3, h4, h5⟩ := hc
  exact W.aald hx hb h1 (rg_isA hk hW hA h2 h3) hty (by rw [h3]; exact fun h => by cases h) (by rw [h4]; exact hin) (h5 _ (List.mem_of_getElem? hv)) rfl rfl hd kk
theorem rg_alen (hk : rK t0) (hW : t0.WarmedH s.vm) (hx : p.tables.exec = Jvm.exec) (hb : c.code = cc) {a k n : Nat} (ty : FieldType) (hA : (k, ty) ∈ rf_AL) {vs : List (Nat × Value)} {v : Int32} (hc : rc_at H a k n vs) (hv : n.toInt32 = v) (hd : decode cc pc = .ok (.arraylength, 1))
    (kk : W p launch0 e R s m args below meth c H locs cells slots Q (F0 m (pc + 1) ls (.int v :: rest))) : W p launch0 e R s m args below meth c H locs cells slots Q (F0 m pc ls (.ref a :: rest)) := by
  obtain ⟨cell, h1, h2, h3, h4, h5⟩ := hc
  exact W.alen hx hb h1 (rg_isA hk hW hA h2 h3) (by rw [h4]; exact hv) rfl rfl hd kk
/-- checkcast of an array to its own class -/
theorem rg_cast (hk : rK t0) (hW : t0.WarmedH s.vm) (hx : p.tables.exec = Jvm.exec) (hb : c.code = cc) {own nm : String} (hown : s.vm.findClass own = some m.cls) {idx a k n : Nat} (hl : Cond.classLink own idx nm ∈ rf_W) {vs : List (Nat × Value)} (hc : rc_at H a k n vs) (hnm : s.vm.findClass nm = some k) (hd : decode cc pc = .ok (.checkcast idx, 3))
    (kk : W p launch0 e R s m args below meth c H locs cells slots Q (F0 m (pc + 3) ls (.ref a :: rest))) : W p launch0 e R s m args below meth c H locs cells slots Q (F0 m pc ls (.ref a :: rest)) := by
  obtain ⟨cell, h1, h2, h3, h4, h5⟩ := hc
  intro T hT X
  obtain ⟨vm', X', st⟩ := X.checkcastYes hx hown (rw_at hk hW hl _) (by rw [hT]; exact h1) (by rw [h3]; rfl) hnm (by rw [h2]; exact va_asg _ _) (g := F0 m pc ls (.ref a :: rest)) rfl rfl (by rw [hb]; exact hd)
  obtain ⟨t, a1, b1⟩ := kk (T.setVm vm') hT X'
  exact ⟨t, st t a1, b1⟩
theorem rg_gets (hk : rK t0) (hW : t0.WarmedH s.vm) (hx : p.tables.exec = Jvm.exec) (hb : c.code = cc) (hown : s.vm.findClass "java/util/ArrayList" = some m.cls) {idx : Nat} (hl : Cond.fieldLink "java/util/ArrayList" idx "java/util/ArrayList" "DEFAULTCAPACITY_EMPTY_ELEMENTDATA" "[Ljava/lang/Object;" ∈ rf_W) (hc : ∃ c : Cell, H[6]? = some c ∧ c.vm = .statics 47 ∧ c.slots[3]? = some (.ref 9)) (hd : decode cc pc = .ok (.getstatic idx, 3))
    (kk : W p launch0 e R s m args below meth c H locs cells slots Q (F0 m (pc + 3) ls (.ref 9 :: rest))) : W p launch0 e R s m args below meth c H locs cells slots Q (F0 m pc ls rest) := by
  obtain ⟨cell, h1, h2, h3⟩ := hc
  have g := hk.2.2.2.2.1.1
  unfold rb_sta at g
  split at g
  · rename_i cf k i f hf
    simp only [Bool.and_eq_true, beq_iff_eq, decide_eq_true_eq] at g
    obtain ⟨k', hk', he⟩ := State.fieldFound?_setVm (s := t0) (hW.alike) hf
    have hi : s.fieldFound? "java/util/ArrayList" "DEFAULTCAPACITY_EMPTY_ELEMENTDATA" "[Ljava/lang/Object;" = some (cf, k', i, f) := by simpa only [State.fieldFound?, State.vm_setVm] using hk'
    exact W.gets hx hb hown (rw_at hk hW hl _) hi g.1 (by rw [he]; exact g.2.1) (a₁ := 6) (by rw [he]; exact g.2.2.1) h1 (by rw [h2]; exact fun h => by cases h) (v := .ref 9) (by rw [g.2.2.2]; exact h3) rfl hd kk
  · cases g
theorem rg_I (hk : rK t0) (hW : t0.WarmedH s.vm) : s.vm.findClass "[I" = some 49 := by rw [hW.alike.findClass]; exact hk.2.2.2.2.1.2
/-- a row of ints, whatever they are -/
def rI (H : Heap) (a n : Nat) : Prop := ∃ cell : Cell, H[a]? = some cell ∧ cell.cls = 49 ∧ cell.vm = .none ∧ cell.slots.size = n ∧ ∀ j : Nat, j < n → ∃ x : Int32, cell.slots[j]? = some (.int x)
theorem rI.kept {H H1 : Heap} {a n : Nat} (h : rI H a n) (e : H1[a]? = H[a]?) : rI H1 a n := by
  obtain ⟨c, h1, h2⟩ := h
  exact ⟨c, e.trans h1, h2⟩
theorem rg_newa (hk : rK t0) (hW : t0.WarmedH s.vm) (hx : p.tables.exec = Jvm.exec) (hb : c.code = cc) (hl : Cond.arrayClass .int ∈ rf_W) {i : Int32} {n : Nat} (hi : i.toNatClampNeg = n) (h0 : ¬ i < 0) (hs : n ≤ 1000) (hcells : cells + 1 ≤ R.cells) (hslots : slots + n ≤ R.slots) (hd : decode cc pc = .ok (.newarray .int, 2))
    (kk : ∀ H1 : Heap, H1.size = H.size + 1 → (∀ x, x < H.size → H1[x]? = H[x]?) → rI H1 H.size n → W p launch0 e R s m args below meth c H1 locs (cells + 1) (slots + n) Q (F0 m (pc + 2) ls (.ref H.size :: rest))) : W p launch0 e R s m args below meth c H locs cells slots Q (F0 m pc ls (.int i :: rest)) := by
  subst hi
  refine W.newa (atype := .int) hx hb (rw_at hk hW hl _) rfl hd rfl h0 ?_ hcells hslots (fun cA kA comp g1 g2 g3 => kk _ (by simp) (fun x hx => by rw [Array.getElem?_push, if_neg (by omega)]) ⟨{ cls := cA, slots := Array.replicate i.toNatClampNeg (defaultValue (newarray.typeOf .int)), vm := .none }, by simp, ?_, rfl, by simp, fun j hj => ⟨0, ?_⟩⟩)
  · show i.toNatClampNeg * 4 ≤ 536870912
    omega
  · exact Option.some.inj (g1.symm.trans (rg_I hk hW))
  · show (Array.replicate i.toNatClampNeg (defaultValue (newarray.typeOf .int)))[j]? = some (.int 0)
    rw [Array.getElem?_replicate, if_pos hj]
    rfl
theorem rg_iast (hk : rK t0) (hW : t0.WarmedH s.vm) (hx : p.tables.exec = Jvm.exec) (hb : c.code = cc) {a n : Nat} {i x : Int32} (hA : (49, FieldType.int) ∈ rf_AL) (hc : rI H a n) (hin : ¬ (i < 0 ∨ n ≤ i.toNatClampNeg)) (hd : decode cc pc = .ok (.iastore, 1))
    (kk : ∀ (H1 : Heap) (z : Nat), H1.size = H.size → (∀ x, x ≠ a → H1[x]? = H[x]?) → rI H1 a n → W p launch0 e R s m args below meth c H1 (locs ++ [⟨a, z⟩]) cells slots Q (F0 m (pc + 1) ls rest)) : W p launch0 e R s m args below meth c H locs cells slots Q (F0 m pc ls (.int x :: .int i :: .ref a :: rest)) := by
  obtain ⟨cell, h1, h2, h3, h4, h5⟩ := hc
  refine W.iast hx hb h1 (rg_isA hk hW hA h2 h3) (by rw [h3]; exact fun h => by cases h) (by rw [h4]; exact hin) rfl rfl hd (fun H' g1 g2 g3 => kk H' _ g2 g3 ⟨_, g1, h2, h3, ?_, fun j hj => ?_⟩)
  · show (cell.slots.setIfInBounds _ _).size = n
    rw [Array.size_setIfInBounds]; exact h4
  · by_cases hjk : i.toNatClampNeg = j
    · subst hjk
      exact ⟨x, Cell.slots_setSlot_self (.int x) (by rw [h4]; exact hj)⟩
    · rw [slot_ne _ _ hjk]
      exact h5 j hj
theorem rg_ialdI (hk : rK t0) (hW : t0.WarmedH s.vm) (hx : p.tables.exec = Jvm.exec) (hb : c.code = cc) {a n : Nat} (hA : (49, FieldType.int) ∈ rf_AL) {i : Int32} (hc : rI H a n) (hin : ¬ (i < 0 ∨ n ≤ i.toNatClampNeg)) (hlt : i.toNatClampNeg < n) (hd : decode cc pc = .ok (.iaload, 1))
    (kk : ∀ v : Int32, W p launch0 e R s m args below meth c H locs cells slots Q (F0 m (pc + 1) ls (.int v :: rest))) : W p launch0 e R s m args below meth c H locs cells slots Q (F0 m pc ls (.int i :: .ref a :: rest)) := by
  obtain ⟨cell, h1, h2, h3, h4, h5⟩ := hc
  obtain ⟨v, hv⟩ := h5 _ hlt
  exact W.iald hx hb h1 (rg_isA hk hW hA h2 h3) (by rw [h3]; exact fun h => by cases h) (by rw [h4]; exact hin) hv rfl rfl hd (kk v)
/-- invokeinterface -/
theorem rg_cf (hk : rK t0) (hW : t0.WarmedH s.vm) (hx : p.tables.exec = Jvm.exec) (hb : c.code = cc) {nL : Nat} (hml : c.maxLocals = nL) (hsize : ls.size = nL) {own : String} (hown : s.vm.findClass own = some m.cls) {idx cnt : Nat} {x y : MethodName} {b : ByteArray} {maxL : Nat} {ret : Option FieldType} {fr lo mc ms n k a : Nat} {As : List Value} {B : Heap → Prop} {post : Heap → Option Value → Heap → Prop} {free : Addr → Prop} {vs : List (Nat × Value)} (hM : RM t0 y b maxL ret fr lo mc ms (.ref a :: As) B post free) (tys : List FieldType) (hcl : (y.cls, k, tys) ∈ rf_CL) (hc : rc_at H a k n vs) (hB : B H)
    (na : Nat) (hna : As.length = na)
    (hw : [Cond.methodLink own idx x, .code y b maxL ret, .initialized y.cls, .instanceMethod y, .selects y.cls x y].all (fun w => decide (w ∈ rf_W)) = true)
    (hw2 : [Cond.declares x, .interfaceMethod x.cls x.cls x.name x.desc, .publicMethod y, .unhidden y.cls x.name x.desc, .castable y.cls x.cls].all (fun w => decide (w ∈ rf_X)) = true)
    (hd : x.cls ≠ "java/lang/invoke/MethodHandle" ∧ x.cls ≠ "java/lang/invoke/VarHandle" ∧ (parseMethodDescriptor x.desc).map (fun d => d.parameters.length) = some na) (hR : fr + 1 ≤ R.frames ∧ 8 + (maxL + 11) + lo ≤ R.locals) (hcat : (rest.map fun v => v.category).sum ≤ 8) (hf : cells + mc ≤ R.cells ∧ slots + ms ≤ R.slots) (hdg : decode cc pc = .ok (.invokeinterface idx cnt, 5)) {st : List Value} (hst : st = As.reverse ++ .ref a :: rest)
    (kk : ∀ (v : Option Value) (H1 : Heap) (L : List Loc), post H v H1 → (∀ x ∈ L, free x.base) → W p launch0 e R s m args below meth c H1 (locs ++ L) (cells + mc) (slots + ms) Q (F0 m (pc + 5) ls (v.toList ++ rest))) : W p launch0 e R s m args below meth c H locs cells slots Q (F0 m pc ls st) := by
  simp only [List.all_cons, List.all_nil, Bool.and_true, Bool.and_eq_true, decide_eq_true_eq] at hw hw2
  obtain ⟨w1, w2, w3, w4, w5⟩ := hw
  obtain ⟨u1, u2, u3, u4, u5⟩ := hw2
  obtain ⟨cell, h1, h2, h3, -⟩ := hc
  obtain ⟨hfc, kC, hkC, hkd, -⟩ := rg_cls hk hW hcl
  have hF0 : va_Fw y.cls x y t0 := va_Fw.of (A := #[]) (hk.2.2.2.2.2 _ u1).2 (hk.2.2.2.2.2 _ u2).2 (hk.2.2.2.2.2 _ u3).2 (hk.2.2.2.2.2 _ u4).2 (hk.2.2.2.2.2 _ u5).2
  have hF : va_Fw y.cls x y s := va_Fw.moved ⟨hd.1, hd.2.1⟩ hW.alike hF0
  subst hst
  have cw : va_CI R s args own y.cls idx x y b maxL ret [.code y b maxL ret] (rRm fr lo mc ms) mc ms na := by
    refine ⟨⟨rfl, rfl, hR.1, hR.2, ?_, List.mem_cons_self⟩, rw_at hk hW w1 _, va_any rfl hF.1, va_any rfl hF.2.1, rw_at hk hW w5 _, rw_at hk hW w4 _, va_any rfl hF.2.2.1, va_any rfl hF.2.2.2.1, va_any rfl hF.2.2.2.2, rw_at hk hW w3 _, rw_at hk hW w2 _, ⟨hd.1, hd.2.1⟩, fun sig h => ?_⟩
    · intro w hw a' U hU
      rw [List.mem_singleton.mp hw]
      exact rw_up hk hW w2 a' U hU
    · have h2 := hd.2.2
      rw [h] at h2
      exact (Option.some.inj h2).symm
  have hr := va_runF (e := e) (cells := cells) (slots := slots) (locs := locs) (below := below) (meth := meth) (H := H) (g := F0 m pc ls (As.reverse ++ .ref a :: rest)) (rest := rest) (cC := k) ⟨hfc, kC, hkC, hkd⟩ (Ts := []) ⟨hx, hb, hml, hown, fun w h => absurd h List.not_mem_nil⟩ hM cw ⟨rg_blind, ⟨cell, h1, by rw [h3]; rfl, by rw [h2]; exact hfc⟩, fun U hU hU2 => ⟨rfl, State.WarmedH.trans hW hU2, by rw [hU]; exact hB⟩⟩ rfl hna hsize rfl (by show 2 * 0 + _ ≤ 8; omega) hdg hf
  intro T hT X
  obtain ⟨v, st₀, t, T', L, e0, X', hL, e1, e2, ⟨w, hw, hp⟩, st⟩ := hr T hT X
  cases hw
  rw [e0] at hp
  obtain ⟨t2, a1, b1⟩ := kk v T'.heap L (by rw [e1]; exact hp) hL T' rfl X'
  exact ⟨t2, st t2 a1, b1⟩
end RF
end
section
/-! CONTRACTS, the leaves -/
theorem rg_q {post : Heap → Option Value → Heap → Prop} {a : Array Value} {st t : State} {v : Option Value} (h : post st.heap v t.heap) : rQ post a st (.returned v) t := ⟨v, rfl, h⟩
theorem rg_nil {L : List Loc} (h : ∀ x ∈ L, (fun _ : Addr => False) x.base) : L = [] := by
  cases L with
  | nil => rfl
  | cons a l => exact (h a List.mem_cons_self).elim
set_option maxHeartbeats 1000000 in
set_option maxRecDepth 100000 in
theorem c_isIn1 {t0 : State} (hk : rK t0) (v lo hi : Int32) (h1 : ¬ v < lo) (h2 : ¬ hi < v) : RM t0 my_isIn mb_isIn 3 (some .boolean) 0 0 0 0 [.int v, .int lo, .int hi] (fun _ => True) (fun H v H1 => v = some (.int 1) ∧ H1 = H) (fun _ => False) := by
  refine rg_body (by decide +kernel) (Nat.le_of_ble_eq_true rfl) (fun p e s m below meth c ls hx hb hml hr hlocks hown hname hW hB hl => ?_)
  have hl : lv_has ls 3 [(0, .int v), (1, .int lo), (2, .int hi)] := hl
  refine lv_iload_n hx hb md_isIn_0 rfl (lv_at hl 0 rfl) ?_
  refine lv_iload_n hx hb md_isIn_1 rfl (lv_at hl 1 rfl) ?_
  refine lv_icmp_lt (tgt := 14) hx hb md_isIn_2 (by decide) (fun h => absurd h (h1)) (fun _ => ?_)
  refine lv_iload_n hx hb md_isIn_5 rfl (lv_at hl 0 rfl) ?_
  refine lv_iload_n hx hb md_isIn_6 rfl (lv_at hl 2 rfl) ?_
  refine lv_icmp_gt (tgt := 14) hx hb md_isIn_7 (by decide) (fun h => absurd h (h2)) (fun _ => ?_)
  refine lv_iconst (v := (1)) hx hb md_isIn_10 (by decide) ?_
  refine lv_goto (tgt := 15) hx hb md_isIn_11 (by decide) ?_
  exact W.zret (v := 1) hx hb hr narrow_b1 (fun t ht _ => rg_q (by rw [ht]; exact ⟨rfl, rfl⟩)) (by simp) md_isIn_15
set_option maxHeartbeats 1000000 in
set_option maxRecDepth 100000 in
theorem c_isIn0 {t0 : State} (hk : rK t0) (v lo hi : Int32) (h1 : v < lo) : RM t0 my_isIn mb_isIn 3 (some .boolean) 0 0 0 0 [.int v, .int lo, .int hi] (fun _ => True) (fun H v H1 => v = some (.int 0) ∧ H1 = H) (fun _ => False) := by
  refine rg_body (by decide +kernel) (Nat.le_of_ble_eq_true rfl) (fun p e s m below meth c ls hx hb hml hr hlocks hown hname hW hB hl => ?_)
  have hl : lv_has ls 3 [(0, .int v), (1, .int lo), (2, .int hi)] := hl
  refine lv_iload_n hx hb md_isIn_0 rfl (lv_at hl 0 rfl) ?_
  refine lv_iload_n hx hb md_isIn_1 rfl (lv_at hl 1 rfl) ?_
  refine lv_icmp_lt (tgt := 14) hx hb md_isIn_2 (by decide) (fun _ => ?_) (fun h => absurd (h1) h)
  refine lv_iconst (v := (0)) hx hb md_isIn_14 (by decide) ?_
  exact W.zret (v := 0) hx hb hr narrow_b0 (fun t ht _ => rg_q (by rw [ht]; exact ⟨rfl, rfl⟩)) (by simp) md_isIn_15
set_option maxHeartbeats 1000000 in
set_option maxRecDepth 100000 in
theorem c_refuse {t0 : State} (hk : rK t0) (k : Int32) : RM t0 my_refuse mb_refuse 3 (some .boolean) 0 0 0 0 [.ref 126, .int 0, .int k] (rHB) (fun H v H1 => v = some (.int 0) ∧ H1 = H) (fun _ => False) := by
  refine rg_body (by decide +kernel) (Nat.le_of_ble_eq_true rfl) (fun p e s m below meth c ls hx hb hml hr hlocks hown hname hW hB hl => ?_)
  have hl : lv_has ls 3 [(0, .ref 126), (1, .int 0), (2, .int k)] := hl
  refine lv_iload_n hx hb md_refuse_0 rfl (lv_at hl 1 rfl) ?_
  refine lv_if_eq (tgt := 16) hx hb md_refuse_1 (by decide) (fun _ => ?_) (fun h => absurd (rfl) h)
  refine lv_aload_n hx hb md_refuse_16 rfl (lv_at hl 0 rfl) ?_
  refine rg_get hk hW hx hb (own := "TimeStoreModel")  hown qf_TimeStoreModel_thrown (by decide +kernel) (by decide +kernel) (v := .int 0) (rHB.at hB 6 rfl) 0 rfl md_refuse_17 ?_
  refine lv_if_le (tgt := 27) hx hb md_refuse_20 (by decide) (fun _ => ?_) (fun h => absurd (by decide) h)
  refine lv_iconst (v := (0)) hx hb md_refuse_27 (by decide) ?_
  exact W.zret (v := 0) hx hb hr narrow_b0 (fun t ht _ => rg_q (by rw [ht]; exact ⟨rfl, rfl⟩)) (by simp) md_refuse_28
set_option maxHeartbeats 1000000 in
set_option maxRecDepth 100000 in
theorem c_start {t0 : State} (hk : rK t0) (k : Int32) : RM t0 my_start mb_start 3 (some .boolean) 2 30 0 0 [.ref 126, .int 0, .int k] (rHB) (fun H v H1 => v = some (.int 0) ∧ H1 = H) (fun q => q = 126) := by
  refine rg_body (by decide +kernel) (Nat.le_of_ble_eq_true rfl) (fun p e s m below meth c ls hx hb hml hr hlocks hown hname hW hB hl => ?_)
  have hl : lv_has ls 3 [(0, .ref 126), (1, .int 0), (2, .int k)] := hl
  refine lv_aload_n hx hb md_start_0 rfl (lv_at hl 0 rfl) ?_
  refine lv_iconst (v := (0)) hx hb md_start_1 (by decide) ?_
  refine rg_puts hk hW hx hb (own := "TimeStoreModel") hown qf_TimeStoreModel_thrown (by decide +kernel) (by decide +kernel) qc_TimeStoreModel (by decide +kernel) rfl rfl rfl (rHB.at hB 6 rfl) 0 rfl rfl rfl md_start_2 ?_
  refine lv_aload_n hx hb md_start_5 rfl (lv_at hl 0 rfl) ?_
  refine lv_iload_n hx hb md_start_6 rfl (lv_at hl 1 rfl) ?_
  refine lv_iload_n hx hb md_start_7 rfl (lv_at hl 2 rfl) ?_
  refine rg_cv hk hW hx hb hml hl.1 (own := "TimeStoreModel") hown (rest := []) (c_refuse hk k) qc_TimeStoreModel.2.2 (by decide +kernel) (rHB.at hB 6 rfl) (hB) 2 rfl (by decide +kernel) ⟨by decide +kernel, by decide +kernel, by decide +kernel⟩ ⟨Nat.le_of_ble_eq_true rfl, Nat.le_of_ble_eq_true rfl⟩ (Nat.le_of_ble_eq_true rfl) ⟨Nat.le_of_ble_eq_true rfl, Nat.le_of_ble_eq_true rfl⟩ md_start_8 rfl (fun v H1 L hp hL => ?_)
  obtain ⟨rfl, rfl⟩ := hp
  obtain rfl : L = [] := rg_nil hL
  refine W.eq (g2 := F0 m 11 ls [.int 0]) rfl ?_
  exact W.zret (v := 0) hx hb hr narrow_b0 (fun t ht _ => rg_q (by rw [ht]; exact ⟨rfl, rfl⟩)) (by simp) md_start_11
set_option maxHeartbeats 1000000 in
set_option maxRecDepth 100000 in
theorem c_size {t0 : State} (hk : rK t0) (a : Nat) (n : Int32) : RM t0 my_size mb_size 1 (some .int) 0 0 0 0 [.ref a] (fun H => rc_at H a 47 3 [(2, .int n)]) (fun H v H1 => v = some (.int n) ∧ H1 = H) (fun _ => False) := by
  refine rg_body (by decide +kernel) (Nat.le_of_ble_eq_true rfl) (fun p e s m below meth c ls hx hb hml hr hlocks hown hname hW hB hl => ?_)
  have hl : lv_has ls 1 [(0, .ref a)] := hl
  refine lv_aload_n hx hb md_size_0 rfl (lv_at hl 0 rfl) ?_
  refine rg_get hk hW hx hb (own := "java/util/ArrayList")  hown qf_ArrayList_size (by decide +kernel) (by decide +kernel) (v := .int n) hB 0 rfl md_size_1 ?_
  exact W.iret (v := n) hx hb hr (fun t ht _ => rg_q (by rw [ht]; exact ⟨rfl, rfl⟩)) (by simp) md_size_4
set_option maxHeartbeats 1000000 in
set_option maxRecDepth 100000 in
theorem c_isNoWin {t0 : State} (hk : rK t0) : RM t0 my_isNoWin mb_isNoWin 2 (some .boolean) 2 30 0 0 [.ref 126, .int 0] (rHB) (fun H v H1 => v = some (.int 0) ∧ H1 = H) (fun _ => False) := by
  refine rg_body (by decide +kernel) (Nat.le_of_ble_eq_true rfl) (fun p e s m below meth c ls hx hb hml hr hlocks hown hname hW hB hl => ?_)
  have hl : lv_has ls 2 [(0, .ref 126), (1, .int 0)] := hl
  refine lv_iload_n hx hb md_isNoWin_0 rfl (lv_at hl 1 rfl) ?_
  refine lv_iconst (v := (0)) hx hb md_isNoWin_1 (by decide) ?_
  refine lv_aload_n hx hb md_isNoWin_2 rfl (lv_at hl 0 rfl) ?_
  refine rg_get hk hW hx hb (own := "TimeStoreModel")  hown qf_TimeStoreModel_windows (by decide +kernel) (by decide +kernel) (v := .ref 138) (rHB.at hB 6 rfl) 2 rfl md_isNoWin_3 ?_
  refine rg_cv hk hW hx hb hml hl.1 (own := "TimeStoreModel") hown (rest := [.int (0), .int 0]) (c_size hk 138 1) qc_ArrayList.2.2 (by decide +kernel) (rHB.at hB 7 rfl) (rc_at.sub (rHB.at hB 7 rfl) [2] rfl) 0 rfl (by decide +kernel) ⟨by decide +kernel, by decide +kernel, by decide +kernel⟩ ⟨Nat.le_of_ble_eq_true rfl, Nat.le_of_ble_eq_true rfl⟩ (Nat.le_of_ble_eq_true rfl) ⟨Nat.le_of_ble_eq_true rfl, Nat.le_of_ble_eq_true rfl⟩ md_isNoWin_6 rfl (fun v H1 L hp hL => ?_)
  obtain ⟨rfl, rfl⟩ := hp
  obtain rfl : L = [] := rg_nil hL
  refine W.eq (g2 := F0 m 9 ls [.int 1, .int (0), .int 0]) rfl ?_
  refine lv_iconst (v := (1)) hx hb md_isNoWin_9 (by decide) ?_
  refine lv_isub hx hb md_isNoWin_10 ?_
  refine rg_cs hk hW hx hb hml hl.1 (own := "TimeStoreModel") hown (rest := []) (c_isIn1 hk 0 0 (1 - (1)) (by decide) (by decide)) (trivial) 3 rfl (by decide +kernel) ⟨by decide +kernel, by decide +kernel, by decide +kernel⟩ ⟨Nat.le_of_ble_eq_true rfl, Nat.le_of_ble_eq_true rfl⟩ (Nat.le_of_ble_eq_true rfl) ⟨Nat.le_of_ble_eq_true rfl, Nat.le_of_ble_eq_true rfl⟩ md_isNoWin_11 rfl (fun v H1 L hp hL => ?_)
  obtain ⟨rfl, rfl⟩ := hp
  obtain rfl : L = [] := rg_nil hL
  refine W.eq (g2 := F0 m 14 ls [.int 1]) rfl ?_
  refine lv_if_ne (tgt := 21) hx hb md_isNoWin_14 (by decide) (fun _ => ?_) (fun h => absurd h (by decide))
  refine lv_iconst (v := (0)) hx hb md_isNoWin_21 (by decide) ?_
  exact W.zret (v := 0) hx hb hr narrow_b0 (fun t ht _ => rg_q (by rw [ht]; exact ⟨rfl, rfl⟩)) (by simp) md_isNoWin_22
set_option maxHeartbeats 1000000 in
set_option maxRecDepth 100000 in
theorem c_preCheck {t0 : State} (hk : rK t0) : RM t0 my_preCheck mb_preCheck 3 (some .int) 0 0 0 0 [.int 0, .int 1, .null] (fun _ => True) (fun H v H1 => v = some (.int 0) ∧ H1 = H) (fun _ => False) := by
  refine rg_body (by decide +kernel) (Nat.le_of_ble_eq_true rfl) (fun p e s m below meth c ls hx hb hml hr hlocks hown hname hW hB hl => ?_)
  have hl : lv_has ls 3 [(0, .int 0), (1, .int 1), (2, .null)] := hl
  refine lv_iload_n hx hb md_preCheck_0 rfl (lv_at hl 0 rfl) ?_
  refine lv_if_lt (tgt := 9) hx hb md_preCheck_1 (by decide) (fun h => absurd h (by decide)) (fun _ => ?_)
  refine lv_iload_n hx hb md_preCheck_4 rfl (lv_at hl 0 rfl) ?_
  refine lv_iload_n hx hb md_preCheck_5 rfl (lv_at hl 1 rfl) ?_
  refine lv_icmp_lt (tgt := 16) hx hb md_preCheck_6 (by decide) (fun _ => ?_) (fun h => absurd (by decide) h)
  refine lv_iload_n hx hb md_preCheck_16 rfl (lv_at hl 0 rfl) ?_
  exact W.iret (v := 0) hx hb hr (fun t ht _ => rg_q (by rw [ht]; exact ⟨rfl, rfl⟩)) (by simp) md_preCheck_17
set_option maxHeartbeats 1000000 in
set_option maxRecDepth 100000 in
theorem c_objCheck {t0 : State} (hk : rK t0) : RM t0 my_objCheck mb_objCheck 2 (some .int) 1 30 0 0 [.int 0, .int 1] (fun _ => True) (fun H v H1 => v = some (.int 0) ∧ H1 = H) (fun _ => False) := by
  refine rg_body (by decide +kernel) (Nat.le_of_ble_eq_true rfl) (fun p e s m below meth c ls hx hb hml hr hlocks hown hname hW hB hl => ?_)
  have hl : lv_has ls 2 [(0, .int 0), (1, .int 1)] := hl
  refine lv_iload_n hx hb md_objCheck_0 rfl (lv_at hl 0 rfl) ?_
  refine lv_iload_n hx hb md_objCheck_1 rfl (lv_at hl 1 rfl) ?_
  refine lv_null hx hb md_objCheck_2 ?_
  refine rg_cs hk hW hx hb hml hl.1 (own := "java/util/Objects") hown (rest := []) (c_preCheck hk) (trivial) 3 rfl (by decide +kernel) ⟨by decide +kernel, by decide +kernel, by decide +kernel⟩ ⟨Nat.le_of_ble_eq_true rfl, Nat.le_of_ble_eq_true rfl⟩ (Nat.le_of_ble_eq_true rfl) ⟨Nat.le_of_ble_eq_true rfl, Nat.le_of_ble_eq_true rfl⟩ md_objCheck_3 rfl (fun v H1 L hp hL => ?_)
  obtain ⟨rfl, rfl⟩ := hp
  obtain rfl : L = [] := rg_nil hL
  refine W.eq (g2 := F0 m 6 ls [.int 0]) rfl ?_
  exact W.iret (v := 0) hx hb hr (fun t ht _ => rg_q (by rw [ht]; exact ⟨rfl, rfl⟩)) (by simp) md_objCheck_6
set_option maxHeartbeats 1000000 in
set_option maxRecDepth 100000 in
theorem c_elem {t0 : State} (hk : rK t0) : RM t0 my_elemData mb_elemData 2 (some (.object "java/lang/Object")) 0 0 0 0 [.ref 138, .int 0] (rHB) (fun H v H1 => v = some (.ref 146) ∧ H1 = H) (fun _ => False) := by
  refine rg_body (by decide +kernel) (Nat.le_of_ble_eq_true rfl) (fun p e s m below meth c ls hx hb hml hr hlocks hown hname hW hB hl => ?_)
  have hl : lv_has ls 2 [(0, .ref 138), (1, .int 0)] := hl
  refine lv_aload_n hx hb md_elemData_0 rfl (lv_at hl 0 rfl) ?_
  refine rg_get hk hW hx hb (own := "java/util/ArrayList")  hown qf_ArrayList_elementData (by decide +kernel) (by decide +kernel) (v := .ref 147) (rHB.at hB 7 rfl) 1 rfl md_elemData_1 ?_
  refine lv_iload_n hx hb md_elemData_4 rfl (lv_at hl 1 rfl) ?_
  refine rg_aald hk hW hx hb (k := 57) (.object "java/lang/Object") (by decide +kernel) rfl (v := .ref 146) (rHB.at hB 8 rfl) 0 rfl (by decide) md_elemData_5 ?_
  exact W.aret (v := .ref 146) hx hb hr (Or.inl ⟨_, rfl⟩) (Or.inr ⟨_, rfl⟩) (fun t ht _ => rg_q (by rw [ht]; exact ⟨rfl, rfl⟩)) (by simp) md_elemData_6
set_option maxHeartbeats 1000000 in
set_option maxRecDepth 100000 in
theorem c_get {t0 : State} (hk : rK t0) : RM t0 my_get mb_get 2 (some (.object "java/lang/Object")) 2 60 0 0 [.ref 138, .int 0] (rHB) (fun H v H1 => v = some (.ref 146) ∧ H1 = H) (fun _ => False) := by
  refine rg_body (by decide +kernel) (Nat.le_of_ble_eq_true rfl) (fun p e s m below meth c ls hx hb hml hr hlocks hown hname hW hB hl => ?_)
  have hl : lv_has ls 2 [(0, .ref 138), (1, .int 0)] := hl
  refine lv_iload_n hx hb md_get_0 rfl (lv_at hl 1 rfl) ?_
  refine lv_aload_n hx hb md_get_1 rfl (lv_at hl 0 rfl) ?_
  refine rg_get hk hW hx hb (own := "java/util/ArrayList")  hown qf_ArrayList_size (by decide +kernel) (by decide +kernel) (v := .int 1) (rHB.at hB 7 rfl) 2 rfl md_get_2 ?_
  refine rg_cs hk hW hx hb hml hl.1 (own := "java/util/ArrayList") hown (rest := []) (c_objCheck hk) (trivial) 2 rfl (by decide +kernel) ⟨by decide +kernel, by decide +kernel, by decide +kernel⟩ ⟨Nat.le_of_ble_eq_true rfl, Nat.le_of_ble_eq_true rfl⟩ (Nat.le_of_ble_eq_true rfl) ⟨Nat.le_of_ble_eq_true rfl, Nat.le_of_ble_eq_true rfl⟩ md_get_5 rfl (fun v H1 L hp hL => ?_)
  obtain ⟨rfl, rfl⟩ := hp
  obtain rfl : L = [] := rg_nil hL
  refine W.eq (g2 := F0 m 8 ls [.int 0]) rfl ?_
  refine lv_pop hx hb md_get_8 rfl ?_
  refine lv_aload_n hx hb md_get_9 rfl (lv_at hl 0 rfl) ?_
  refine lv_iload_n hx hb md_get_10 rfl (lv_at hl 1 rfl) ?_
  refine rg_cv hk hW hx hb hml hl.1 (own := "java/util/ArrayList") hown (rest := []) (c_elem hk) qc_ArrayList.2.2 (by decide +kernel) (rHB.at hB 7 rfl) (hB) 1 rfl (by decide +kernel) ⟨by decide +kernel, by decide +kernel, by decide +kernel⟩ ⟨Nat.le_of_ble_eq_true rfl, Nat.le_of_ble_eq_true rfl⟩ (Nat.le_of_ble_eq_true rfl) ⟨Nat.le_of_ble_eq_true rfl, Nat.le_of_ble_eq_true rfl⟩ md_get_11 rfl (fun v H1 L hp hL => ?_)
  obtain ⟨rfl, rfl⟩ := hp
  obtain rfl : L = [] := rg_nil hL
  refine W.eq (g2 := F0 m 14 ls [.ref 146]) rfl ?_
  exact W.aret (v := .ref 146) hx hb hr (Or.inl ⟨_, rfl⟩) (Or.inr ⟨_, rfl⟩) (fun t ht _ => rg_q (by rw [ht]; exact ⟨rfl, rfl⟩)) (by simp) md_get_14
set_option maxHeartbeats 1000000 in
set_option maxRecDepth 100000 in
theorem c_of {t0 : State} (hk : rK t0) : RM t0 my_of mb_of 2 (some (.object "java/util/ArrayList")) 0 0 0 0 [.ref 126, .int 0] (rHB) (fun H v H1 => v = some (.ref 127) ∧ H1 = H) (fun _ => False) := by
  refine rg_body (by decide +kernel) (Nat.le_of_ble_eq_true rfl) (fun p e s m below meth c ls hx hb hml hr hlocks hown hname hW hB hl => ?_)
  have hl : lv_has ls 2 [(0, .ref 126), (1, .int 0)] := hl
  refine lv_iload_n hx hb md_of_0 rfl (lv_at hl 1 rfl) ?_
  refine lv_if_ne (tgt := 11) hx hb md_of_1 (by decide) (fun h => absurd (by decide) h) (fun _ => ?_)
  refine lv_aload_n hx hb md_of_4 rfl (lv_at hl 0 rfl) ?_
  refine rg_get hk hW hx hb (own := "TimeStoreModel")  hown qf_TimeStoreModel_first (by decide +kernel) (by decide +kernel) (v := .ref 127) (rHB.at hB 6 rfl) 1 rfl md_of_5 ?_
  refine lv_goto (tgt := 15) hx hb md_of_8 (by decide) ?_
  exact W.aret (v := .ref 127) hx hb hr (Or.inl ⟨_, rfl⟩) (Or.inr ⟨_, rfl⟩) (fun t ht _ => rg_q (by rw [ht]; exact ⟨rfl, rfl⟩)) (by simp) md_of_15
end
section
/-! CONTRACTS, the class's side of ofWindow(0, 5) -/
set_option maxHeartbeats 1000000 in
set_option maxRecDepth 100000 in
theorem c_needWin {t0 : State} (hk : rK t0) : RM t0 my_needWin mb_needWin 2 none 0 0 0 0 [.ref 59, .int 0] (rHB) (fun H v H1 => v = none ∧ H1 = H) (fun _ => False) := by
  refine rg_body (by decide +kernel) (Nat.le_of_ble_eq_true rfl) (fun p e s m below meth c ls hx hb hml hr hlocks hown hname hW hB hl => ?_)
  have hl : lv_has ls 2 [(0, .ref 59), (1, .int 0)] := hl
  refine lv_iload_n hx hb md_needWin_0 rfl (lv_at hl 1 rfl) ?_
  refine lv_if_lt (tgt := 12) hx hb md_needWin_1 (by decide) (fun h => absurd h (by decide)) (fun _ => ?_)
  refine lv_iload_n hx hb md_needWin_4 rfl (lv_at hl 1 rfl) ?_
  refine lv_aload_n hx hb md_needWin_5 rfl (lv_at hl 0 rfl) ?_
  refine rg_get hk hW hx hb (own := "TimeStore")  hown qf_TimeStore_windowCount (by decide +kernel) (by decide +kernel) (v := .int 1) (rHB.at hB 0 rfl) 2 rfl md_needWin_6 ?_
  refine lv_icmp_lt (tgt := 23) hx hb md_needWin_9 (by decide) (fun _ => ?_) (fun h => absurd (by decide) h)
  exact W.vret hx hb hr (fun t ht _ => rg_q (by rw [ht]; exact ⟨rfl, rfl⟩)) (by simp) md_needWin_23
set_option maxHeartbeats 1000000 in
set_option maxRecDepth 100000 in
theorem c_needWhat {t0 : State} (hk : rK t0) : RM t0 my_needWhat mb_needWhat 2 none 0 0 0 0 [.int 5, .int 6] (fun _ => True) (fun H v H1 => v = none ∧ H1 = H) (fun _ => False) := by
  refine rg_body (by decide +kernel) (Nat.le_of_ble_eq_true rfl) (fun p e s m below meth c ls hx hb hml hr hlocks hown hname hW hB hl => ?_)
  have hl : lv_has ls 2 [(0, .int 5), (1, .int 6)] := hl
  refine lv_iload_n hx hb md_needWhat_0 rfl (lv_at hl 0 rfl) ?_
  refine lv_if_lt (tgt := 9) hx hb md_needWhat_1 (by decide) (fun h => absurd h (by decide)) (fun _ => ?_)
  refine lv_iload_n hx hb md_needWhat_4 rfl (lv_at hl 0 rfl) ?_
  refine lv_iload_n hx hb md_needWhat_5 rfl (lv_at hl 1 rfl) ?_
  refine lv_icmp_le (tgt := 20) hx hb md_needWhat_6 (by decide) (fun _ => ?_) (fun h => absurd (by decide) h)
  exact W.vret hx hb hr (fun t ht _ => rg_q (by rw [ht]; exact ⟨rfl, rfl⟩)) (by simp) md_needWhat_20
set_option maxHeartbeats 1000000 in
set_option maxRecDepth 100000 in
theorem c_storeAt {t0 : State} (hk : rK t0) : RM t0 my_storeAt mb_storeAt 2 (some (.object "TimeStore$Store")) 0 0 0 0 [.ref 59, .int 0] (rHB) (fun H v H1 => v = some (.ref 60) ∧ H1 = H) (fun _ => False) := by
  refine rg_body (by decide +kernel) (Nat.le_of_ble_eq_true rfl) (fun p e s m below meth c ls hx hb hml hr hlocks hown hname hW hB hl => ?_)
  have hl : lv_has ls 2 [(0, .ref 59), (1, .int 0)] := hl
  refine lv_iload_n hx hb md_storeAt_0 rfl (lv_at hl 1 rfl) ?_
  refine lv_if_ne (tgt := 11) hx hb md_storeAt_1 (by decide) (fun h => absurd (by decide) h) (fun _ => ?_)
  refine lv_aload_n hx hb md_storeAt_4 rfl (lv_at hl 0 rfl) ?_
  refine rg_get hk hW hx hb (own := "TimeStore")  hown qf_TimeStore_zero (by decide +kernel) (by decide +kernel) (v := .ref 60) (rHB.at hB 0 rfl) 0 rfl md_storeAt_5 ?_
  refine lv_goto (tgt := 15) hx hb md_storeAt_8 (by decide) ?_
  exact W.aret (v := .ref 60) hx hb hr (Or.inl ⟨_, rfl⟩) (Or.inr ⟨_, rfl⟩) (fun t ht _ => rg_q (by rw [ht]; exact ⟨rfl, rfl⟩)) (by simp) md_storeAt_15
set_option maxHeartbeats 1000000 in
set_option maxRecDepth 100000 in
theorem c_pack1 {t0 : State} (hk : rK t0) (P : Int32) (hP : P = 1) : RM t0 my_pack mb_pack 7 (some .long) 0 0 0 0 [.int 0, .int P, .int 0, .int 0, .int (-2)] (fun _ => True) (fun H v H1 => v = some (.long 262144) ∧ H1 = H) (fun _ => False) := by
  refine rg_body (by decide +kernel) (Nat.le_of_ble_eq_true rfl) (fun p e s m below meth c ls hx hb hml hr hlocks hown hname hW hB hl => ?_)
  have hl : lv_has ls 7 [(0, .int 0), (1, .int P), (2, .int 0), (3, .int 0), (4, .int (-2))] := hl
  subst hP
  refine lv_iload_n hx hb md_pack_0 rfl (lv_at hl 0 rfl) ?_
  refine lv_i2l (v := (0 : Int32).toInt64) hx hb md_pack_1 rfl ?_
  refine lv_topl (fun xv1 exv1 => ?_)
  refine lv_bipush (v := (10)) hx hb md_pack_2 (by decide) ?_
  refine lv_lshl (v := ((xv1) <<< (((10) : Int32).toInt64 &&& 63))) hx hb md_pack_4 rfl ?_
  refine lv_topl (fun xv2 exv2 => ?_)
  refine lv_iload_n hx hb md_pack_5 rfl (lv_at hl 1 rfl) ?_
  refine lv_i2l (v := (1 : Int32).toInt64) hx hb md_pack_6 rfl ?_
  refine lv_topl (fun xv3 exv3 => ?_)
  refine lv_lor hx hb md_pack_7 ?_
  refine lv_topl (fun xv4 exv4 => ?_)
  refine lv_lstore (lv' := [(5, .long xv4), (0, .int 0), (1, .int 1), (2, .int 0), (3, .int 0), (4, .int (-2))]) hx hb md_pack_8 hl (by decide) rfl (fun ls hl => ?_)
  refine lv_lload hx hb md_pack_10 (lv_at hl 0 rfl) ?_
  refine lv_bipush (v := (10)) hx hb md_pack_12 (by decide) ?_
  refine lv_lshl (v := ((xv4) <<< (((10) : Int32).toInt64 &&& 63))) hx hb md_pack_14 rfl ?_
  refine lv_topl (fun xv5 exv5 => ?_)
  refine lv_iload_n hx hb md_pack_15 rfl (lv_at hl 3 rfl) ?_
  refine lv_i2l (v := (0 : Int32).toInt64) hx hb md_pack_16 rfl ?_
  refine lv_topl (fun xv6 exv6 => ?_)
  refine lv_lor hx hb md_pack_17 ?_
  refine lv_topl (fun xv7 exv7 => ?_)
  refine lv_bipush (v := (8)) hx hb md_pack_18 (by decide) ?_
  refine lv_lshl (v := ((xv7) <<< (((8) : Int32).toInt64 &&& 63))) hx hb md_pack_20 rfl ?_
  refine lv_topl (fun xv8 exv8 => ?_)
  refine lv_iload_n hx hb md_pack_21 rfl (lv_at hl 4 rfl) ?_
  refine lv_bipush (v := (7)) hx hb md_pack_22 (by decide) ?_
  refine lv_ishl hx hb md_pack_24 ?_
  refine lv_topi (fun xv9 exv9 => ?_)
  refine lv_i2l (v := (xv9 : Int32).toInt64) hx hb md_pack_25 rfl ?_
  refine lv_topl (fun xv10 exv10 => ?_)
  refine lv_lor hx hb md_pack_26 ?_
  refine lv_topl (fun xv11 exv11 => ?_)
  refine lv_iload hx hb md_pack_27 (lv_at hl 5 rfl) ?_
  refine lv_iconst (v := (2)) hx hb md_pack_29 (by decide) ?_
  refine lv_iadd hx hb md_pack_30 ?_
  refine lv_i2l (v := (((-2) + (2)) : Int32).toInt64) hx hb md_pack_31 rfl ?_
  refine lv_topl (fun xv12 exv12 => ?_)
  refine lv_lor hx hb md_pack_32 ?_
  refine lv_topl (fun xv13 exv13 => ?_)
  exact W.lret (v := xv13) hx hb hr (fun t ht _ => rg_q (by rw [ht]; refine ⟨?_, rfl⟩; rw [exv13, exv12, exv11, exv10, exv9, exv8, exv7, exv6, exv5, exv4, exv3, exv2, exv1]; decide +kernel)) (by simp) md_pack_33
set_option maxHeartbeats 1000000 in
set_option maxRecDepth 100000 in
theorem c_pack2 {t0 : State} (hk : rK t0) (P : Int32) (hP : P = 1000) : RM t0 my_pack mb_pack 7 (some .long) 0 0 0 0 [.int 0, .int P, .int 0, .int 0, .int (-2)] (fun _ => True) (fun H v H1 => v = some (.long 262144000) ∧ H1 = H) (fun _ => False) := by
  refine rg_body (by decide +kernel) (Nat.le_of_ble_eq_true rfl) (fun p e s m below meth c ls hx hb hml hr hlocks hown hname hW hB hl => ?_)
  have hl : lv_has ls 7 [(0, .int 0), (1, .int P), (2, .int 0), (3, .int 0), (4, .int (-2))] := hl
  subst hP
  refine lv_iload_n hx hb md_pack_0 rfl (lv_at hl 0 rfl) ?_
  refine lv_i2l (v := (0 : Int32).toInt64) hx hb md_pack_1 rfl ?_
  refine lv_topl (fun xv1 exv1 => ?_)
  refine lv_bipush (v := (10)) hx hb md_pack_2 (by decide) ?_
  refine lv_lshl (v := ((xv1) <<< (((10) : Int32).toInt64 &&& 63))) hx hb md_pack_4 rfl ?_
  refine lv_topl (fun xv2 exv2 => ?_)
  refine lv_iload_n hx hb md_pack_5 rfl (lv_at hl 1 rfl) ?_
  refine lv_i2l (v := (1000 : Int32).toInt64) hx hb md_pack_6 rfl ?_
  refine lv_topl (fun xv3 exv3 => ?_)
  refine lv_lor hx hb md_pack_7 ?_
  refine lv_topl (fun xv4 exv4 => ?_)
  refine lv_lstore (lv' := [(5, .long xv4), (0, .int 0), (1, .int 1000), (2, .int 0), (3, .int 0), (4, .int (-2))]) hx hb md_pack_8 hl (by decide) rfl (fun ls hl => ?_)
  refine lv_lload hx hb md_pack_10 (lv_at hl 0 rfl) ?_
  refine lv_bipush (v := (10)) hx hb md_pack_12 (by decide) ?_
  refine lv_lshl (v := ((xv4) <<< (((10) : Int32).toInt64 &&& 63))) hx hb md_pack_14 rfl ?_
  refine lv_topl (fun xv5 exv5 => ?_)
  refine lv_iload_n hx hb md_pack_15 rfl (lv_at hl 3 rfl) ?_
  refine lv_i2l (v := (0 : Int32).toInt64) hx hb md_pack_16 rfl ?_
  refine lv_topl (fun xv6 exv6 => ?_)
  refine lv_lor hx hb md_pack_17 ?_
  refine lv_topl (fun xv7 exv7 => ?_)
  refine lv_bipush (v := (8)) hx hb md_pack_18 (by decide) ?_
  refine lv_lshl (v := ((xv7) <<< (((8) : Int32).toInt64 &&& 63))) hx hb md_pack_20 rfl ?_
  refine lv_topl (fun xv8 exv8 => ?_)
  refine lv_iload_n hx hb md_pack_21 rfl (lv_at hl 4 rfl) ?_
  refine lv_bipush (v := (7)) hx hb md_pack_22 (by decide) ?_
  refine lv_ishl hx hb md_pack_24 ?_
  refine lv_topi (fun xv9 exv9 => ?_)
  refine lv_i2l (v := (xv9 : Int32).toInt64) hx hb md_pack_25 rfl ?_
  refine lv_topl (fun xv10 exv10 => ?_)
  refine lv_lor hx hb md_pack_26 ?_
  refine lv_topl (fun xv11 exv11 => ?_)
  refine lv_iload hx hb md_pack_27 (lv_at hl 5 rfl) ?_
  refine lv_iconst (v := (2)) hx hb md_pack_29 (by decide) ?_
  refine lv_iadd hx hb md_pack_30 ?_
  refine lv_i2l (v := (((-2) + (2)) : Int32).toInt64) hx hb md_pack_31 rfl ?_
  refine lv_topl (fun xv12 exv12 => ?_)
  refine lv_lor hx hb md_pack_32 ?_
  refine lv_topl (fun xv13 exv13 => ?_)
  exact W.lret (v := xv13) hx hb hr (fun t ht _ => rg_q (by rw [ht]; refine ⟨?_, rfl⟩; rw [exv13, exv12, exv11, exv10, exv9, exv8, exv7, exv6, exv5, exv4, exv3, exv2, exv1]; decide +kernel)) (by simp) md_pack_33
set_option maxHeartbeats 1000000 in
set_option maxRecDepth 100000 in
theorem c_placeOf {t0 : State} (hk : rK t0) (L : Int64) (hL : ¬ 0 ≤ lg_cmp 7 L) : RM t0 my_placeOf mb_placeOf 7 (some .int) 0 0 0 0 [.ref 61, .long L] (rHB) (fun H v H1 => v = some (.int 1) ∧ H1 = H) (fun _ => False) := by
  refine rg_body (by decide +kernel) (Nat.le_of_ble_eq_true rfl) (fun p e s m below meth c ls hx hb hml hr hlocks hown hname hW hB hl => ?_)
  have hl : lv_has ls 7 [(0, .ref 61), (1, .long L)] := hl
  refine lv_iconst (v := (0)) hx hb md_placeOf_0 (by decide) ?_
  refine lv_istore_n (lv' := [(3, .int (0)), (0, .ref 61), (1, .long L)]) hx hb md_placeOf_1 rfl hl (by decide) rfl (fun ls hl => ?_)
  refine lv_aload_n hx hb md_placeOf_2 rfl (lv_at hl 1 rfl) ?_
  refine rg_get hk hW hx hb (own := "TimeStore$Words")  hown qf_TimeStoreWords_size (by decide +kernel) (by decide +kernel) (v := .int 1) (rHB.at hB 3 rfl) 1 rfl md_placeOf_3 ?_
  refine lv_istore (lv' := [(4, .int 1), (3, .int (0)), (0, .ref 61), (1, .long L)]) hx hb md_placeOf_6 hl (by decide) rfl (fun ls hl => ?_)
  refine lv_iconst (v := (0)) hx hb md_placeOf_8 (by decide) ?_
  refine lv_istore (lv' := [(5, .int (0)), (4, .int 1), (3, .int (0)), (0, .ref 61), (1, .long L)]) hx hb md_placeOf_9 hl (by decide) rfl (fun ls hl => ?_)
  refine lv_iload_n hx hb md_placeOf_11 rfl (lv_at hl 2 rfl) ?_
  refine lv_iload hx hb md_placeOf_12 (lv_at hl 1 rfl) ?_
  refine lv_icmp_ge (tgt := 62) hx hb md_placeOf_14 (by decide) (fun h => absurd h (by decide)) (fun _ => ?_)
  refine lv_iload hx hb md_placeOf_17 (lv_at hl 0 rfl) ?_
  refine lv_bipush (v := (32)) hx hb md_placeOf_19 (by decide) ?_
  refine lv_icmp_ge (tgt := 62) hx hb md_placeOf_21 (by decide) (fun h => absurd h (by decide)) (fun _ => ?_)
  refine lv_iload_n hx hb md_placeOf_24 rfl (lv_at hl 2 rfl) ?_
  refine lv_iload hx hb md_placeOf_25 (lv_at hl 1 rfl) ?_
  refine lv_iadd hx hb md_placeOf_27 ?_
  refine lv_iconst (v := (2)) hx hb md_placeOf_28 (by decide) ?_
  refine lv_idiv hx hb md_placeOf_29 (by decide) ?_
  refine lv_istore (lv' := [(6, .int ((((0) + 1)) / ((2)))), (5, .int (0)), (4, .int 1), (3, .int (0)), (0, .ref 61), (1, .long L)]) hx hb md_placeOf_30 hl (by decide) rfl (fun ls hl => ?_)
  refine lv_aload_n hx hb md_placeOf_32 rfl (lv_at hl 4 rfl) ?_
  refine rg_get hk hW hx hb (own := "TimeStore$Words")  hown qf_TimeStoreWords_row (by decide +kernel) (by decide +kernel) (v := .ref 62) (rHB.at hB 3 rfl) 0 rfl md_placeOf_33 ?_
  refine lv_iload hx hb md_placeOf_36 (lv_at hl 0 rfl) ?_
  refine rg_lald hk hW hx hb (k := 51) (by decide +kernel) (v := .long 7) (rHB.at hB 4 rfl) 0 (by decide +kernel) (by decide +kernel) md_placeOf_38 ?_
  refine lv_lload_n hx hb md_placeOf_39 rfl (lv_at hl 5 rfl) ?_
  refine W.lcmp hx hb md_placeOf_40 ?_
  refine lv_if_ge (tgt := 52) hx hb md_placeOf_41 (by decide) (fun h => absurd h (hL)) (fun _ => ?_)
  refine lv_iload hx hb md_placeOf_44 (lv_at hl 0 rfl) ?_
  refine lv_iconst (v := (1)) hx hb md_placeOf_46 (by decide) ?_
  refine lv_iadd hx hb md_placeOf_47 ?_
  refine lv_istore_n (lv' := [(3, .int (((((0) + 1)) / ((2))) + (1))), (6, .int ((((0) + 1)) / ((2)))), (5, .int (0)), (4, .int 1), (0, .ref 61), (1, .long L)]) hx hb md_placeOf_48 rfl hl (by decide) rfl (fun ls hl => ?_)
  refine lv_goto (tgt := 56) hx hb md_placeOf_49 (by decide) ?_
  refine lv_iinc (v := ((0) + Int32.ofInt (1))) (lv' := [(5, .int ((0) + Int32.ofInt (1))), (3, .int (((((0) + 1)) / ((2))) + (1))), (6, .int ((((0) + 1)) / ((2)))), (4, .int 1), (0, .ref 61), (1, .long L)]) hx hb md_placeOf_56 hl (k := 2) rfl rfl (by decide) rfl (fun ls hl => ?_)
  refine lv_goto (tgt := 11) hx hb md_placeOf_59 (by decide) ?_
  refine lv_iload_n hx hb md_placeOf_11 rfl (lv_at hl 1 rfl) ?_
  refine lv_iload hx hb md_placeOf_12 (lv_at hl 3 rfl) ?_
  refine lv_icmp_ge (tgt := 62) hx hb md_placeOf_14 (by decide) (fun _ => ?_) (fun h => absurd (by decide +kernel) h)
  refine lv_iload_n hx hb md_placeOf_62 rfl (lv_at hl 1 rfl) ?_
  exact W.iret (v := (((((0) + 1)) / ((2))) + (1))) hx hb hr (fun t ht _ => rg_q (by rw [ht]; exact ⟨by decide +kernel, rfl⟩)) (by simp) md_placeOf_63
set_option maxHeartbeats 1000000 in
set_option maxRecDepth 100000 in
theorem c_first1 {t0 : State} (hk : rK t0) (P : Int32) (hP : P = 1) : RM t0 my_firstAb mb_firstAb 3 (some .int) 1 40 0 0 [.ref 61, .int 0, .int P] (rHB) (fun H v H1 => v = some (.int 1) ∧ H1 = H) (fun _ => False) := by
  refine rg_body (by decide +kernel) (Nat.le_of_ble_eq_true rfl) (fun p e s m below meth c ls hx hb hml hr hlocks hown hname hW hB hl => ?_)
  have hl : lv_has ls 3 [(0, .ref 61), (1, .int 0), (2, .int P)] := hl
  refine lv_aload_n hx hb md_firstAb_0 rfl (lv_at hl 0 rfl) ?_
  refine lv_iload_n hx hb md_firstAb_1 rfl (lv_at hl 1 rfl) ?_
  refine lv_iload_n hx hb md_firstAb_2 rfl (lv_at hl 2 rfl) ?_
  refine lv_iconst (v := (0)) hx hb md_firstAb_3 (by decide) ?_
  refine lv_iconst (v := (0)) hx hb md_firstAb_4 (by decide) ?_
  refine lv_bipush (v := (-2)) hx hb md_firstAb_5 (by decide) ?_
  refine rg_cs hk hW hx hb hml hl.1 (own := "TimeStore$Words") hown (rest := [.ref 61]) (c_pack1 hk P hP) (trivial) 5 rfl (by decide +kernel) ⟨by decide +kernel, by decide +kernel, by decide +kernel⟩ ⟨Nat.le_of_ble_eq_true rfl, Nat.le_of_ble_eq_true rfl⟩ (Nat.le_of_ble_eq_true rfl) ⟨Nat.le_of_ble_eq_true rfl, Nat.le_of_ble_eq_true rfl⟩ md_firstAb_7 rfl (fun v H1 L hp hL => ?_)
  obtain ⟨rfl, rfl⟩ := hp
  obtain rfl : L = [] := rg_nil hL
  refine W.eq (g2 := F0 m 10 ls [.long 262144, .ref 61]) rfl ?_
  refine rg_cv hk hW hx hb hml hl.1 (own := "TimeStore$Words") hown (rest := []) (c_placeOf hk 262144 (by decide +kernel)) qc_TimeStoreWords.2.2 (by decide +kernel) (rHB.at hB 3 rfl) (hB) 1 rfl (by decide +kernel) ⟨by decide +kernel, by decide +kernel, by decide +kernel⟩ ⟨Nat.le_of_ble_eq_true rfl, Nat.le_of_ble_eq_true rfl⟩ (Nat.le_of_ble_eq_true rfl) ⟨Nat.le_of_ble_eq_true rfl, Nat.le_of_ble_eq_true rfl⟩ md_firstAb_10 rfl (fun v H1 L hp hL => ?_)
  obtain ⟨rfl, rfl⟩ := hp
  obtain rfl : L = [] := rg_nil hL
  refine W.eq (g2 := F0 m 13 ls [.int 1]) rfl ?_
  exact W.iret (v := 1) hx hb hr (fun t ht _ => rg_q (by rw [ht]; exact ⟨rfl, rfl⟩)) (by simp) md_firstAb_13
set_option maxHeartbeats 1000000 in
set_option maxRecDepth 100000 in
theorem c_first2 {t0 : State} (hk : rK t0) (P : Int32) (hP : P = 1000) : RM t0 my_firstAb mb_firstAb 3 (some .int) 1 40 0 0 [.ref 61, .int 0, .int P] (rHB) (fun H v H1 => v = some (.int 1) ∧ H1 = H) (fun _ => False) := by
  refine rg_body (by decide +kernel) (Nat.le_of_ble_eq_true rfl) (fun p e s m below meth c ls hx hb hml hr hlocks hown hname hW hB hl => ?_)
  have hl : lv_has ls 3 [(0, .ref 61), (1, .int 0), (2, .int P)] := hl
  refine lv_aload_n hx hb md_firstAb_0 rfl (lv_at hl 0 rfl) ?_
  refine lv_iload_n hx hb md_firstAb_1 rfl (lv_at hl 1 rfl) ?_
  refine lv_iload_n hx hb md_firstAb_2 rfl (lv_at hl 2 rfl) ?_
  refine lv_iconst (v := (0)) hx hb md_firstAb_3 (by decide) ?_
  refine lv_iconst (v := (0)) hx hb md_firstAb_4 (by decide) ?_
  refine lv_bipush (v := (-2)) hx hb md_firstAb_5 (by decide) ?_
  refine rg_cs hk hW hx hb hml hl.1 (own := "TimeStore$Words") hown (rest := [.ref 61]) (c_pack2 hk P hP) (trivial) 5 rfl (by decide +kernel) ⟨by decide +kernel, by decide +kernel, by decide +kernel⟩ ⟨Nat.le_of_ble_eq_true rfl, Nat.le_of_ble_eq_true rfl⟩ (Nat.le_of_ble_eq_true rfl) ⟨Nat.le_of_ble_eq_true rfl, Nat.le_of_ble_eq_true rfl⟩ md_firstAb_7 rfl (fun v H1 L hp hL => ?_)
  obtain ⟨rfl, rfl⟩ := hp
  obtain rfl : L = [] := rg_nil hL
  refine W.eq (g2 := F0 m 10 ls [.long 262144000, .ref 61]) rfl ?_
  refine rg_cv hk hW hx hb hml hl.1 (own := "TimeStore$Words") hown (rest := []) (c_placeOf hk 262144000 (by decide +kernel)) qc_TimeStoreWords.2.2 (by decide +kernel) (rHB.at hB 3 rfl) (hB) 1 rfl (by decide +kernel) ⟨by decide +kernel, by decide +kernel, by decide +kernel⟩ ⟨Nat.le_of_ble_eq_true rfl, Nat.le_of_ble_eq_true rfl⟩ (Nat.le_of_ble_eq_true rfl) ⟨Nat.le_of_ble_eq_true rfl, Nat.le_of_ble_eq_true rfl⟩ md_firstAb_10 rfl (fun v H1 L hp hL => ?_)
  obtain ⟨rfl, rfl⟩ := hp
  obtain rfl : L = [] := rg_nil hL
  refine W.eq (g2 := F0 m 13 ls [.int 1]) rfl ?_
  exact W.iret (v := 1) hx hb hr (fun t ht _ => rg_q (by rw [ht]; exact ⟨rfl, rfl⟩)) (by simp) md_firstAb_13
set_option maxHeartbeats 1000000 in
set_option maxRecDepth 100000 in
theorem c_endPer {t0 : State} (hk : rK t0) : RM t0 my_endPer mb_endPer 6 (some .int) 2 80 0 0 [.ref 59, .ref 101, .int 0] (rHB) (fun H v H1 => v = some (.int (-9)) ∧ H1 = H) (fun _ => False) := by
  refine rg_body (by decide +kernel) (Nat.le_of_ble_eq_true rfl) (fun p e s m below meth c ls hx hb hml hr hlocks hown hname hW hB hl => ?_)
  have hl : lv_has ls 6 [(0, .ref 59), (1, .ref 101), (2, .int 0)] := hl
  refine lv_aload_n hx hb md_endPer_0 rfl (lv_at hl 0 rfl) ?_
  refine lv_aload_n hx hb md_endPer_1 rfl (lv_at hl 1 rfl) ?_
  refine rg_getN hk hW hx hb (own := "TimeStore") (host := "TimeStore") hown qf_TimeStoreWindow_store (by decide +kernel) (by decide +kernel) (v := .int 0) (rHB.at hB 1 rfl) 0 rfl md_endPer_2 ?_
  refine rg_cv hk hW hx hb hml hl.1 (own := "TimeStore") hown (rest := []) (c_storeAt hk) qc_TimeStore.2.2 (by decide +kernel) (rHB.at hB 0 rfl) (hB) 1 rfl (by decide +kernel) ⟨by decide +kernel, by decide +kernel, by decide +kernel⟩ ⟨Nat.le_of_ble_eq_true rfl, Nat.le_of_ble_eq_true rfl⟩ (Nat.le_of_ble_eq_true rfl) ⟨Nat.le_of_ble_eq_true rfl, Nat.le_of_ble_eq_true rfl⟩ md_endPer_5 rfl (fun v H1 L hp hL => ?_)
  obtain ⟨rfl, rfl⟩ := hp
  obtain rfl : L = [] := rg_nil hL
  refine W.eq (g2 := F0 m 8 ls [.ref 60]) rfl ?_
  refine rg_getN hk hW hx hb (own := "TimeStore") (host := "TimeStore") hown qf_TimeStoreStore_words (by decide +kernel) (by decide +kernel) (v := .ref 61) (rHB.at hB 2 rfl) 0 rfl md_endPer_8 ?_
  refine lv_astore_n (lv' := [(3, .ref 61), (0, .ref 59), (1, .ref 101), (2, .int 0)]) hx hb md_endPer_11 rfl hl (by decide) rfl (fun ls hl => ?_)
  refine lv_aload_n hx hb md_endPer_12 rfl (lv_at hl 0 rfl) ?_
  refine lv_aload_n hx hb md_endPer_13 rfl (lv_at hl 2 rfl) ?_
  refine rg_getN hk hW hx hb (own := "TimeStore") (host := "TimeStore") hown qf_TimeStoreWindow_key (by decide +kernel) (by decide +kernel) (v := .int 0) (rHB.at hB 1 rfl) 1 rfl md_endPer_14 ?_
  refine lv_aload_n hx hb md_endPer_17 rfl (lv_at hl 2 rfl) ?_
  refine rg_getN hk hW hx hb (own := "TimeStore") (host := "TimeStore") hown qf_TimeStoreWindow_from (by decide +kernel) (by decide +kernel) (v := .int 1) (rHB.at hB 1 rfl) 2 rfl md_endPer_18 ?_
  refine rg_cv hk hW hx hb hml hl.1 (own := "TimeStore") hown (rest := []) (c_first1 hk 1 rfl) qc_TimeStoreWords.2.2 (by decide +kernel) (rHB.at hB 3 rfl) (hB) 2 rfl (by decide +kernel) ⟨by decide +kernel, by decide +kernel, by decide +kernel⟩ ⟨Nat.le_of_ble_eq_true rfl, Nat.le_of_ble_eq_true rfl⟩ (Nat.le_of_ble_eq_true rfl) ⟨Nat.le_of_ble_eq_true rfl, Nat.le_of_ble_eq_true rfl⟩ md_endPer_21 rfl (fun v H1 L hp hL => ?_)
  obtain ⟨rfl, rfl⟩ := hp
  obtain rfl : L = [] := rg_nil hL
  refine W.eq (g2 := F0 m 24 ls [.int 1]) rfl ?_
  refine lv_istore (lv' := [(4, .int 1), (3, .ref 61), (0, .ref 59), (1, .ref 101), (2, .int 0)]) hx hb md_endPer_24 hl (by decide) rfl (fun ls hl => ?_)
  refine lv_aload_n hx hb md_endPer_26 rfl (lv_at hl 1 rfl) ?_
  refine lv_aload_n hx hb md_endPer_27 rfl (lv_at hl 3 rfl) ?_
  refine rg_getN hk hW hx hb (own := "TimeStore") (host := "TimeStore") hown qf_TimeStoreWindow_key (by decide +kernel) (by decide +kernel) (v := .int 0) (rHB.at hB 1 rfl) 1 rfl md_endPer_28 ?_
  refine lv_aload_n hx hb md_endPer_31 rfl (lv_at hl 3 rfl) ?_
  refine rg_getN hk hW hx hb (own := "TimeStore") (host := "TimeStore") hown qf_TimeStoreWindow_to (by decide +kernel) (by decide +kernel) (v := .int 999) (rHB.at hB 1 rfl) 3 rfl md_endPer_32 ?_
  refine lv_iconst (v := (1)) hx hb md_endPer_35 (by decide) ?_
  refine lv_iadd hx hb md_endPer_36 ?_
  refine rg_cv hk hW hx hb hml hl.1 (own := "TimeStore") hown (rest := []) (c_first2 hk (999 + (1)) (by decide)) qc_TimeStoreWords.2.2 (by decide +kernel) (rHB.at hB 3 rfl) (hB) 2 rfl (by decide +kernel) ⟨by decide +kernel, by decide +kernel, by decide +kernel⟩ ⟨Nat.le_of_ble_eq_true rfl, Nat.le_of_ble_eq_true rfl⟩ (Nat.le_of_ble_eq_true rfl) ⟨Nat.le_of_ble_eq_true rfl, Nat.le_of_ble_eq_true rfl⟩ md_endPer_37 rfl (fun v H1 L hp hL => ?_)
  obtain ⟨rfl, rfl⟩ := hp
  obtain rfl : L = [] := rg_nil hL
  refine W.eq (g2 := F0 m 40 ls [.int 1]) rfl ?_
  refine lv_istore (lv' := [(5, .int 1), (4, .int 1), (3, .ref 61), (0, .ref 59), (1, .ref 101), (2, .int 0)]) hx hb md_endPer_40 hl (by decide) rfl (fun ls hl => ?_)
  refine lv_iload hx hb md_endPer_42 (lv_at hl 1 rfl) ?_
  refine lv_iload hx hb md_endPer_44 (lv_at hl 0 rfl) ?_
  refine lv_icmp_lt (tgt := 52) hx hb md_endPer_46 (by decide) (fun h => absurd h (by decide)) (fun _ => ?_)
  refine lv_bipush (v := (-9)) hx hb md_endPer_49 (by decide) ?_
  exact W.iret (v := (-9)) hx hb hr (fun t ht _ => rg_q (by rw [ht]; exact ⟨rfl, rfl⟩)) (by simp) md_endPer_51
set_option maxHeartbeats 1000000 in
set_option maxRecDepth 100000 in
theorem c_cofWin {t0 : State} (hk : rK t0) : RM t0 my_cofWin mb_cofWin 4 (some .int) 3 140 0 0 [.ref 59, .int 0, .int 5] (rHB) (fun H v H1 => v = some (.int (-9)) ∧ H1 = H) (fun _ => False) := by
  refine rg_body (by decide +kernel) (Nat.le_of_ble_eq_true rfl) (fun p e s m below meth c ls hx hb hml hr hlocks hown hname hW hB hl => ?_)
  have hl : lv_has ls 4 [(0, .ref 59), (1, .int 0), (2, .int 5)] := hl
  refine lv_aload_n hx hb md_cofWin_0 rfl (lv_at hl 0 rfl) ?_
  refine lv_iload_n hx hb md_cofWin_1 rfl (lv_at hl 1 rfl) ?_
  refine rg_cv hk hW hx hb hml hl.1 (own := "TimeStore") hown (rest := []) (c_needWin hk) qc_TimeStore.2.2 (by decide +kernel) (rHB.at hB 0 rfl) (hB) 1 rfl (by decide +kernel) ⟨by decide +kernel, by decide +kernel, by decide +kernel⟩ ⟨Nat.le_of_ble_eq_true rfl, Nat.le_of_ble_eq_true rfl⟩ (Nat.le_of_ble_eq_true rfl) ⟨Nat.le_of_ble_eq_true rfl, Nat.le_of_ble_eq_true rfl⟩ md_cofWin_2 rfl (fun v H1 L hp hL => ?_)
  obtain ⟨rfl, rfl⟩ := hp
  obtain rfl : L = [] := rg_nil hL
  refine W.eq (g2 := F0 m 5 ls []) rfl ?_
  refine lv_iload_n hx hb md_cofWin_5 rfl (lv_at hl 2 rfl) ?_
  refine lv_bipush (v := (6)) hx hb md_cofWin_6 (by decide) ?_
  refine rg_cs hk hW hx hb hml hl.1 (own := "TimeStore") hown (rest := []) (c_needWhat hk) (trivial) 2 rfl (by decide +kernel) ⟨by decide +kernel, by decide +kernel, by decide +kernel⟩ ⟨Nat.le_of_ble_eq_true rfl, Nat.le_of_ble_eq_true rfl⟩ (Nat.le_of_ble_eq_true rfl) ⟨Nat.le_of_ble_eq_true rfl, Nat.le_of_ble_eq_true rfl⟩ md_cofWin_8 rfl (fun v H1 L hp hL => ?_)
  obtain ⟨rfl, rfl⟩ := hp
  obtain rfl : L = [] := rg_nil hL
  refine W.eq (g2 := F0 m 11 ls []) rfl ?_
  refine lv_aload_n hx hb md_cofWin_11 rfl (lv_at hl 0 rfl) ?_
  refine rg_get hk hW hx hb (own := "TimeStore")  hown qf_TimeStore_windows (by decide +kernel) (by decide +kernel) (v := .ref 100) (rHB.at hB 0 rfl) 1 rfl md_cofWin_12 ?_
  refine lv_iload_n hx hb md_cofWin_15 rfl (lv_at hl 1 rfl) ?_
  refine rg_aald hk hW hx hb (k := 55) (.object "TimeStore$Window") (by decide +kernel) rfl (v := .ref 101) (rHB.at hB 5 rfl) 0 rfl (by decide) md_cofWin_16 ?_
  refine lv_astore_n (lv' := [(3, .ref 101), (0, .ref 59), (1, .int 0), (2, .int 5)]) hx hb md_cofWin_17 rfl hl (by decide) rfl (fun ls hl => ?_)
  refine lv_iload_n hx hb md_cofWin_18 rfl (lv_at hl 3 rfl) ?_
  refine lv_tableOut (tgt := 78) hx hb md_cofWin_19 (Or.inr (by decide)) (by decide) ?_
  refine lv_aload_n hx hb md_cofWin_78 rfl (lv_at hl 1 rfl) ?_
  refine lv_aload_n hx hb md_cofWin_79 rfl (lv_at hl 0 rfl) ?_
  refine lv_iload_n hx hb md_cofWin_80 rfl (lv_at hl 3 rfl) ?_
  refine lv_bipush (v := (6)) hx hb md_cofWin_81 (by decide) ?_
  refine lv_icmp_ne (tgt := 90) hx hb md_cofWin_83 (by decide) (fun _ => ?_) (fun h => absurd h (by decide))
  refine lv_iconst (v := (0)) hx hb md_cofWin_90 (by decide) ?_
  refine rg_cv hk hW hx hb hml hl.1 (own := "TimeStore") hown (rest := []) (c_endPer hk) qc_TimeStore.2.2 (by decide +kernel) (rHB.at hB 0 rfl) (hB) 2 rfl (by decide +kernel) ⟨by decide +kernel, by decide +kernel, by decide +kernel⟩ ⟨Nat.le_of_ble_eq_true rfl, Nat.le_of_ble_eq_true rfl⟩ (Nat.le_of_ble_eq_true rfl) ⟨Nat.le_of_ble_eq_true rfl, Nat.le_of_ble_eq_true rfl⟩ md_cofWin_91 rfl (fun v H1 L hp hL => ?_)
  obtain ⟨rfl, rfl⟩ := hp
  obtain rfl : L = [] := rg_nil hL
  refine W.eq (g2 := F0 m 94 ls [.int (-9)]) rfl ?_
  exact W.iret (v := (-9)) hx hb hr (fun t ht _ => rg_q (by rw [ht]; exact ⟨rfl, rfl⟩)) (by simp) md_cofWin_94
end
section
/-! CONTRACTS, lists and their iterators -/
theorem rg_lap {F : Nat → Prop} {A B : List Loc} (h1 : ∀ x ∈ A, F x.base) (h2 : ∀ x ∈ B, F x.base) : ∀ x ∈ A ++ B, F x.base := fun x h => (List.mem_append.mp h).elim (h1 x) (h2 x)
theorem rg_lone {F : Nat → Prop} {a i : Nat} (h : F a) : ∀ x ∈ ([⟨a, i⟩] : List Loc), F x.base := fun x hx => by rw [List.mem_singleton.mp hx]; exact h
set_option maxHeartbeats 1000000 in
set_option maxRecDepth 100000 in
theorem c_abc {t0 : State} (hk : rK t0) (a : Nat) : RM t0 my_abcInit mb_abcInit 1 none 1 30 0 0 [.ref a] (fun _ => True) (fun H v H1 => v = none ∧ H1 = H) (fun _ => False) := by
  refine rg_body (by decide +kernel) (Nat.le_of_ble_eq_true rfl) (fun p e s m below meth c ls hx hb hml hr hlocks hown hname hW hB hl => ?_)
  have hl : lv_has ls 1 [(0, .ref a)] := hl
  refine lv_aload_n hx hb md_abcInit_0 rfl (lv_at hl 0 rfl) ?_
  refine W.objInit hx hb hown (rw_at hk hW (w := .methodLink "java/util/AbstractCollection" 1 Lib.objectInit) (by decide +kernel) _) (rw_at hk hW (w := .instanceMethod Lib.objectInit) (by decide +kernel) _) (rw_at hk hW (w := .code Lib.objectInit ⟨#[0xb1]⟩ 1 none) (by decide +kernel) _) rfl (by rw [hml]; exact hl.1) rfl md_abcInit_1 (Nat.le_of_ble_eq_true rfl) (Nat.le_of_ble_eq_true rfl) ?_
  refine W.eq (g2 := F0 m 4 ls []) rfl ?_
  exact W.vret hx hb hr (fun t ht _ => rg_q (by rw [ht]; exact ⟨rfl, rfl⟩)) (by simp) md_abcInit_4
set_option maxHeartbeats 1000000 in
set_option maxRecDepth 100000 in
theorem c_abl {t0 : State} (hk : rK t0) (a : Nat) : RM t0 my_ablInit mb_ablInit 1 none 2 60 0 0 [.ref a] (fun H => rc_at H a 47 3 [(0, .int 0)]) (fun H v H1 => v = none ∧ H1 = H) (fun x => x = a) := by
  refine rg_body (by decide +kernel) (Nat.le_of_ble_eq_true rfl) (fun p e s m below meth c ls hx hb hml hr hlocks hown hname hW hB hl => ?_)
  have hl : lv_has ls 1 [(0, .ref a)] := hl
  refine lv_aload_n hx hb md_ablInit_0 rfl (lv_at hl 0 rfl) ?_
  refine rg_ci hk hW hx hb hml hl.1 (own := "java/util/AbstractList") hown (rest := []) (c_abc hk a) (trivial) rfl 0 rfl (by decide +kernel) ⟨by decide +kernel, by decide +kernel, by decide +kernel⟩ ⟨Nat.le_of_ble_eq_true rfl, Nat.le_of_ble_eq_true rfl⟩ (Nat.le_of_ble_eq_true rfl) ⟨Nat.le_of_ble_eq_true rfl, Nat.le_of_ble_eq_true rfl⟩ md_ablInit_1 rfl (fun v H1 L hp hL => ?_)
  obtain ⟨rfl, rfl⟩ := hp
  obtain rfl : L = [] := rg_nil hL
  refine W.eq (g2 := F0 m 4 ls []) rfl ?_
  refine lv_aload_n hx hb md_ablInit_4 rfl (lv_at hl 0 rfl) ?_
  refine lv_iconst (v := (0)) hx hb md_ablInit_5 (by decide) ?_
  refine rg_puts hk hW hx hb (own := "java/util/AbstractList") hown qf_AbstractList_modCount (by decide +kernel) (by decide +kernel) qc_ArrayList (by decide +kernel) rfl rfl rfl hB 0 rfl rfl rfl md_ablInit_6 ?_
  exact W.vret hx hb hr (fun t ht _ => rg_q (by rw [ht]; exact ⟨rfl, rfl⟩)) (by simp) md_ablInit_9
set_option maxHeartbeats 1000000 in
set_option maxRecDepth 100000 in
theorem c_ali {t0 : State} (hk : rK t0) (a : Nat) : RM t0 my_alInit mb_alInit 1 none 3 90 0 0 [.ref a] (fun H => rc_at H a 47 3 [(0, .int 0), (1, .null), (2, .int 0)] ∧ (∃ c : Cell, H[6]? = some c ∧ c.vm = .statics 47 ∧ c.slots[3]? = some (.ref 9))) (fun H v H1 => v = none ∧ H1.size = H.size ∧ (∀ x, x ≠ a → H1[x]? = H[x]?) ∧ rc_at H1 a 47 3 [(1, .ref 9), (0, .int 0), (2, .int 0)]) (fun x => x = a) := by
  refine rg_body (by decide +kernel) (Nat.le_of_ble_eq_true rfl) (fun p e s m below meth c ls hx hb hml hr hlocks hown hname hW hB hl => ?_)
  have hl : lv_has ls 1 [(0, .ref a)] := hl
  obtain ⟨hB, hS⟩ := hB
  refine lv_aload_n hx hb md_alInit_0 rfl (lv_at hl 0 rfl) ?_
  refine rg_ci hk hW hx hb hml hl.1 (own := "java/util/ArrayList") hown (rest := []) (c_abl hk a) (hB.sub [0] rfl) rfl 0 rfl (by decide +kernel) ⟨by decide +kernel, by decide +kernel, by decide +kernel⟩ ⟨Nat.le_of_ble_eq_true rfl, Nat.le_of_ble_eq_true rfl⟩ (Nat.le_of_ble_eq_true rfl) ⟨Nat.le_of_ble_eq_true rfl, Nat.le_of_ble_eq_true rfl⟩ md_alInit_1 rfl (fun v H1 L1 hp hL1 => ?_)
  obtain ⟨rfl, rfl⟩ := hp
  refine W.eq (g2 := F0 m 4 ls []) rfl ?_
  refine lv_aload_n hx hb md_alInit_4 rfl (lv_at hl 0 rfl) ?_
  refine rg_gets hk hW hx hb hown (by decide +kernel) hS md_alInit_5 ?_
  refine rg_put hk hW hx hb (own := "java/util/ArrayList") hown qf_ArrayList_elementData (by decide +kernel) (by decide +kernel) qc_ArrayList (by decide +kernel) rfl rfl (Or.inl rfl) hB rfl rfl md_alInit_8 (fun H2 z2 k2 n2 => ?_)
  exact W.vret hx hb hr (fun t ht _ => rg_q (by rw [ht]; exact ⟨rfl, z2, k2, n2⟩)) (rg_lap (F := fun x : Nat => x = a) (rg_lap (F := fun x : Nat => x = a) (by simp) hL1) (rg_lone (F := fun x : Nat => x = a) rfl)) md_alInit_11
set_option maxHeartbeats 1000000 in
set_option maxRecDepth 100000 in
theorem c_itri {t0 : State} (hk : rK t0) (a b : Nat) (mc : Int32) : RM t0 my_itrInit mb_itrInit 2 none 1 30 0 0 [.ref a, .ref b] (fun H => rc_at H a 31 4 [(0, .int 0), (1, .int 0), (2, .int 0), (3, .null)] ∧ rc_at H b 47 3 [(0, .int mc)] ∧ b ≠ a) (fun H v H1 => v = none ∧ H1.size = H.size ∧ (∀ x, x ≠ a → H1[x]? = H[x]?) ∧ rc_at H1 a 31 4 [(2, .int mc), (1, .int (-1)), (3, .ref b), (0, .int 0)]) (fun x => x = a) := by
  refine rg_body (by decide +kernel) (Nat.le_of_ble_eq_true rfl) (fun p e s m below meth c ls hx hb hml hr hlocks hown hname hW hB hl => ?_)
  have hl : lv_has ls 2 [(0, .ref a), (1, .ref b)] := hl
  obtain ⟨hB, hC, hne⟩ := hB
  refine lv_aload_n hx hb md_itrInit_0 rfl (lv_at hl 0 rfl) ?_
  refine lv_aload_n hx hb md_itrInit_1 rfl (lv_at hl 1 rfl) ?_
  refine rg_put hk hW hx hb (own := "java/util/ArrayList$Itr") hown qf_ArrayListItr_this0 (by decide +kernel) (by decide +kernel) qc_ArrayListItr (by decide +kernel) rfl rfl (Or.inr ⟨hname, rfl, rfl⟩) hB rfl rfl md_itrInit_2 (fun H1 z1 k1 n1 => ?_)
  refine lv_aload_n hx hb md_itrInit_5 rfl (lv_at hl 0 rfl) ?_
  refine W.objInit hx hb hown (rw_at hk hW (w := .methodLink "java/util/ArrayList$Itr" 7 Lib.objectInit) (by decide +kernel) _) (rw_at hk hW (w := .instanceMethod Lib.objectInit) (by decide +kernel) _) (rw_at hk hW (w := .code Lib.objectInit ⟨#[0xb1]⟩ 1 none) (by decide +kernel) _) rfl (by rw [hml]; exact hl.1) rfl md_itrInit_6 (Nat.le_of_ble_eq_true rfl) (Nat.le_of_ble_eq_true rfl) ?_
  refine W.eq (g2 := F0 m 9 ls []) rfl ?_
  refine lv_aload_n hx hb md_itrInit_9 rfl (lv_at hl 0 rfl) ?_
  refine lv_iconst (v := (-1)) hx hb md_itrInit_10 (by decide) ?_
  refine rg_put hk hW hx hb (own := "java/util/ArrayList$Itr") hown qf_ArrayListItr_lastRet (by decide +kernel) (by decide +kernel) qc_ArrayListItr (by decide +kernel) rfl rfl (Or.inl rfl) n1 rfl rfl md_itrInit_11 (fun H2 z2 k2 n2 => ?_)
  refine lv_aload_n hx hb md_itrInit_14 rfl (lv_at hl 0 rfl) ?_
  refine lv_aload_n hx hb md_itrInit_15 rfl (lv_at hl 0 rfl) ?_
  refine rg_get hk hW hx hb (own := "java/util/ArrayList$Itr")  hown qf_ArrayListItr_this0 (by decide +kernel) (by decide +kernel) (v := .ref b) n2 1 rfl md_itrInit_16 ?_
  refine rg_get hk hW hx hb (own := "java/util/ArrayList$Itr")  hown qf_ArrayList_modCount (by decide +kernel) (by decide +kernel) (v := .int mc) ((hC.kept (k1 b hne)).kept (k2 b hne)) 0 rfl md_itrInit_19 ?_
  refine rg_put hk hW hx hb (own := "java/util/ArrayList$Itr") hown qf_ArrayListItr_expectedModCount (by decide +kernel) (by decide +kernel) qc_ArrayListItr (by decide +kernel) rfl rfl (Or.inl rfl) n2 rfl rfl md_itrInit_22 (fun H3 z3 k3 n3 => ?_)
  exact W.vret hx hb hr (fun t ht _ => rg_q (by rw [ht]; exact ⟨rfl, z3.trans (z2.trans z1), fun x hx => (k3 x hx).trans ((k2 x hx).trans (k1 x hx)), n3⟩)) (by simp) md_itrInit_25
set_option maxHeartbeats 1000000 in
set_option maxRecDepth 100000 in
theorem c_iter {t0 : State} (hk : rK t0) (b : Nat) (mc : Int32) (sz : Nat) : RM t0 my_iterator mb_iterator 1 (some (.object "java/util/Iterator")) 2 60 1 4 [.ref b] (fun H => H.size = sz ∧ rc_at H b 47 3 [(0, .int mc)]) (fun H v H1 => v = some (.ref sz) ∧ H1.size = sz + 1 ∧ (∀ x, x < sz → H1[x]? = H[x]?) ∧ rc_at H1 sz 31 4 [(2, .int mc), (1, .int (-1)), (3, .ref b), (0, .int 0)]) (fun x => sz ≤ x) := by
  refine rg_body (by decide +kernel) (Nat.le_of_ble_eq_true rfl) (fun p e s m below meth c ls hx hb hml hr hlocks hown hname hW hB hl => ?_)
  have hl : lv_has ls 1 [(0, .ref b)] := hl
  obtain ⟨hsz, hB⟩ := hB
  subst hsz
  refine rg_new hk hW hx hb (own := "java/util/ArrayList") hown (n := 4) qc_ArrayListItr (by decide +kernel) (by decide +kernel) (by decide +kernel) (by decide +kernel) rfl (vs := [(0, .int 0), (1, .int 0), (2, .int 0), (3, .null)]) (by decide +kernel) (Nat.le_of_ble_eq_true rfl) (Nat.le_of_ble_eq_true rfl) md_iterator_0 (fun H1 z1 k1 n1 => ?_)
  have hlt := hB.lt
  refine lv_dup hx hb md_iterator_3 rfl ?_
  refine lv_aload_n hx hb md_iterator_4 rfl (lv_at hl 0 rfl) ?_
  refine rg_ci hk hW hx hb hml hl.1 (own := "java/util/ArrayList") hown (rest := [.ref s.heap.size]) (c_itri hk s.heap.size b mc) (⟨n1, hB.kept (k1 b hlt), by omega⟩) rfl 1 rfl (by decide +kernel) ⟨by decide +kernel, by decide +kernel, by decide +kernel⟩ ⟨Nat.le_of_ble_eq_true rfl, Nat.le_of_ble_eq_true rfl⟩ (Nat.le_of_ble_eq_true rfl) ⟨Nat.le_of_ble_eq_true rfl, Nat.le_of_ble_eq_true rfl⟩ md_iterator_5 rfl (fun v H2 L2 hp hL2 => ?_)
  obtain ⟨rfl, z2, k2, n2⟩ := hp
  refine W.eq (g2 := F0 m 8 ls [.ref s.heap.size]) rfl ?_
  exact W.aret (v := .ref s.heap.size) hx hb hr (Or.inl ⟨_, rfl⟩) (Or.inr ⟨_, rfl⟩) (fun t ht _ => rg_q (by rw [ht]; exact ⟨rfl, z2.trans z1, fun x hx => (k2 x (by omega)).trans (k1 x hx), n2⟩)) (rg_lap (F := fun x : Nat => s.heap.size ≤ x) (by simp) (fun x h => Nat.le_of_eq (Eq.symm (hL2 x h)))) md_iterator_8
set_option maxHeartbeats 1000000 in
set_option maxRecDepth 100000 in
theorem c_hasNext0 {t0 : State} (hk : rK t0) (a b : Nat) (i n : Int32) (hq : n = i) : RM t0 my_hasNext mb_hasNext 1 (some .boolean) 0 0 0 0 [.ref a] (fun H => rc_at H a 31 4 [(0, .int i), (3, .ref b)] ∧ rc_at H b 47 3 [(2, .int n)]) (fun H v H1 => v = some (.int 0) ∧ H1 = H) (fun _ => False) := by
  refine rg_body (by decide +kernel) (Nat.le_of_ble_eq_true rfl) (fun p e s m below meth c ls hx hb hml hr hlocks hown hname hW hB hl => ?_)
  have hl : lv_has ls 1 [(0, .ref a)] := hl
  obtain ⟨hB, hC⟩ := hB
  refine lv_aload_n hx hb md_hasNext_0 rfl (lv_at hl 0 rfl) ?_
  refine rg_get hk hW hx hb (own := "java/util/ArrayList$Itr")  hown qf_ArrayListItr_cursor (by decide +kernel) (by decide +kernel) (v := .int i) hB 0 rfl md_hasNext_1 ?_
  refine lv_aload_n hx hb md_hasNext_4 rfl (lv_at hl 0 rfl) ?_
  refine rg_get hk hW hx hb (own := "java/util/ArrayList$Itr")  hown qf_ArrayListItr_this0 (by decide +kernel) (by decide +kernel) (v := .ref b) hB 1 rfl md_hasNext_5 ?_
  refine rg_getN hk hW hx hb (own := "java/util/ArrayList$Itr") (host := "java/util/ArrayList") hown qf_ArrayList_size (by decide +kernel) (by decide +kernel) (v := .int n) hC 0 rfl md_hasNext_8 ?_
  refine lv_icmp_eq (tgt := 18) hx hb md_hasNext_11 (by decide) (fun _ => ?_) (fun h => absurd (hq.symm) h)
  refine lv_iconst (v := (0)) hx hb md_hasNext_18 (by decide) ?_
  exact W.zret (v := 0) hx hb hr narrow_b0 (fun t ht _ => rg_q (by rw [ht]; exact ⟨rfl, rfl⟩)) (by simp) md_hasNext_19
set_option maxHeartbeats 1000000 in
set_option maxRecDepth 100000 in
theorem c_hasNext1 {t0 : State} (hk : rK t0) (a b : Nat) (i n : Int32) (hq : ¬ i = n) : RM t0 my_hasNext mb_hasNext 1 (some .boolean) 0 0 0 0 [.ref a] (fun H => rc_at H a 31 4 [(0, .int i), (3, .ref b)] ∧ rc_at H b 47 3 [(2, .int n)]) (fun H v H1 => v = some (.int 1) ∧ H1 = H) (fun _ => False) := by
  refine rg_body (by decide +kernel) (Nat.le_of_ble_eq_true rfl) (fun p e s m below meth c ls hx hb hml hr hlocks hown hname hW hB hl => ?_)
  have hl : lv_has ls 1 [(0, .ref a)] := hl
  obtain ⟨hB, hC⟩ := hB
  refine lv_aload_n hx hb md_hasNext_0 rfl (lv_at hl 0 rfl) ?_
  refine rg_get hk hW hx hb (own := "java/util/ArrayList$Itr")  hown qf_ArrayListItr_cursor (by decide +kernel) (by decide +kernel) (v := .int i) hB 0 rfl md_hasNext_1 ?_
  refine lv_aload_n hx hb md_hasNext_4 rfl (lv_at hl 0 rfl) ?_
  refine rg_get hk hW hx hb (own := "java/util/ArrayList$Itr")  hown qf_ArrayListItr_this0 (by decide +kernel) (by decide +kernel) (v := .ref b) hB 1 rfl md_hasNext_5 ?_
  refine rg_getN hk hW hx hb (own := "java/util/ArrayList$Itr") (host := "java/util/ArrayList") hown qf_ArrayList_size (by decide +kernel) (by decide +kernel) (v := .int n) hC 0 rfl md_hasNext_8 ?_
  refine lv_icmp_eq (tgt := 18) hx hb md_hasNext_11 (by decide) (fun h => absurd h (hq)) (fun _ => ?_)
  refine lv_iconst (v := (1)) hx hb md_hasNext_14 (by decide) ?_
  refine lv_goto (tgt := 19) hx hb md_hasNext_15 (by decide) ?_
  exact W.zret (v := 1) hx hb hr narrow_b1 (fun t ht _ => rg_q (by rw [ht]; exact ⟨rfl, rfl⟩)) (by simp) md_hasNext_19
set_option maxHeartbeats 1000000 in
set_option maxRecDepth 100000 in
theorem c_chk {t0 : State} (hk : rK t0) (a b : Nat) (mc : Int32) : RM t0 my_checkMod mb_checkMod 1 none 0 0 0 0 [.ref a] (fun H => rc_at H a 31 4 [(2, .int mc), (3, .ref b)] ∧ rc_at H b 47 3 [(0, .int mc)]) (fun H v H1 => v = none ∧ H1 = H) (fun _ => False) := by
  refine rg_body (by decide +kernel) (Nat.le_of_ble_eq_true rfl) (fun p e s m below meth c ls hx hb hml hr hlocks hown hname hW hB hl => ?_)
  have hl : lv_has ls 1 [(0, .ref a)] := hl
  obtain ⟨hB, hC⟩ := hB
  refine lv_aload_n hx hb md_checkMod_0 rfl (lv_at hl 0 rfl) ?_
  refine rg_get hk hW hx hb (own := "java/util/ArrayList$Itr")  hown qf_ArrayListItr_this0 (by decide +kernel) (by decide +kernel) (v := .ref b) hB 1 rfl md_checkMod_1 ?_
  refine rg_get hk hW hx hb (own := "java/util/ArrayList$Itr")  hown qf_ArrayList_modCount (by decide +kernel) (by decide +kernel) (v := .int mc) hC 0 rfl md_checkMod_4 ?_
  refine lv_aload_n hx hb md_checkMod_7 rfl (lv_at hl 0 rfl) ?_
  refine rg_get hk hW hx hb (own := "java/util/ArrayList$Itr")  hown qf_ArrayListItr_expectedModCount (by decide +kernel) (by decide +kernel) (v := .int mc) hB 0 rfl md_checkMod_8 ?_
  refine lv_icmp_eq (tgt := 22) hx hb md_checkMod_11 (by decide) (fun _ => ?_) (fun h => absurd (rfl) h)
  exact W.vret hx hb hr (fun t ht _ => rg_q (by rw [ht]; exact ⟨rfl, rfl⟩)) (by simp) md_checkMod_22
set_option maxHeartbeats 1000000 in
set_option maxRecDepth 100000 in
theorem c_next {t0 : State} (hk : rK t0) (a : Nat) : RM t0 my_next mb_next 3 (some (.object "java/lang/Object")) 1 30 0 0 [.ref a] (fun H => rHB H ∧ rc_at H a 31 4 [(2, .int 1), (1, .int (-1)), (3, .ref 127), (0, .int 0)] ∧ 148 ≤ a) (fun H v H1 => v = some (.ref 142) ∧ H1.size = H.size ∧ (∀ x, x ≠ a → H1[x]? = H[x]?) ∧ rc_at H1 a 31 4 [(0, .int (0 + 1)), (3, .ref 127)]) (fun x => x = a) := by
  refine rg_body (by decide +kernel) (Nat.le_of_ble_eq_true rfl) (fun p e s m below meth c ls hx hb hml hr hlocks hown hname hW hB hl => ?_)
  have hl : lv_has ls 3 [(0, .ref a)] := hl
  obtain ⟨hR, hB, hge⟩ := hB
  refine lv_aload_n hx hb md_next_0 rfl (lv_at hl 0 rfl) ?_
  refine rg_cv hk hW hx hb hml hl.1 (own := "java/util/ArrayList$Itr") hown (rest := []) (c_chk hk a 127 1) qc_ArrayListItr.2.2 (by decide +kernel) hB (⟨hB.sub [0, 2] rfl, (rHB.at hR 10 rfl).sub [0] rfl⟩) 0 rfl (by decide +kernel) ⟨by decide +kernel, by decide +kernel, by decide +kernel⟩ ⟨Nat.le_of_ble_eq_true rfl, Nat.le_of_ble_eq_true rfl⟩ (Nat.le_of_ble_eq_true rfl) ⟨Nat.le_of_ble_eq_true rfl, Nat.le_of_ble_eq_true rfl⟩ md_next_1 rfl (fun v H1 L hp hL => ?_)
  obtain ⟨rfl, rfl⟩ := hp
  obtain rfl : L = [] := rg_nil hL
  refine W.eq (g2 := F0 m 4 ls []) rfl ?_
  refine lv_aload_n hx hb md_next_4 rfl (lv_at hl 0 rfl) ?_
  refine rg_get hk hW hx hb (own := "java/util/ArrayList$Itr")  hown qf_ArrayListItr_cursor (by decide +kernel) (by decide +kernel) (v := .int 0) hB 3 rfl md_next_5 ?_
  refine lv_istore_n (lv' := [(1, .int 0), (0, .ref a)]) hx hb md_next_8 rfl hl (by decide) rfl (fun ls hl => ?_)
  refine lv_iload_n hx hb md_next_9 rfl (lv_at hl 0 rfl) ?_
  refine lv_aload_n hx hb md_next_10 rfl (lv_at hl 1 rfl) ?_
  refine rg_get hk hW hx hb (own := "java/util/ArrayList$Itr")  hown qf_ArrayListItr_this0 (by decide +kernel) (by decide +kernel) (v := .ref 127) hB 2 rfl md_next_11 ?_
  refine rg_getN hk hW hx hb (own := "java/util/ArrayList$Itr") (host := "java/util/ArrayList") hown qf_ArrayList_size (by decide +kernel) (by decide +kernel) (v := .int 1) (rHB.at hR 10 rfl) 2 rfl md_next_14 ?_
  refine lv_icmp_lt (tgt := 28) hx hb md_next_17 (by decide) (fun _ => ?_) (fun h => absurd (by decide) h)
  refine lv_aload_n hx hb md_next_28 rfl (lv_at hl 1 rfl) ?_
  refine rg_get hk hW hx hb (own := "java/util/ArrayList$Itr")  hown qf_ArrayListItr_this0 (by decide +kernel) (by decide +kernel) (v := .ref 127) hB 2 rfl md_next_29 ?_
  refine rg_get hk hW hx hb (own := "java/util/ArrayList$Itr")  hown qf_ArrayList_elementData (by decide +kernel) (by decide +kernel) (v := .ref 143) (rHB.at hR 10 rfl) 1 rfl md_next_32 ?_
  refine lv_astore_n (lv' := [(2, .ref 143), (1, .int 0), (0, .ref a)]) hx hb md_next_35 rfl hl (by decide) rfl (fun ls hl => ?_)
  refine lv_iload_n hx hb md_next_36 rfl (lv_at hl 1 rfl) ?_
  refine lv_aload_n hx hb md_next_37 rfl (lv_at hl 0 rfl) ?_
  refine rg_alen hk hW hx hb (k := 57) (.object "java/lang/Object") (by decide +kernel) (v := 10) (rHB.at hR 11 rfl) (by decide) md_next_38 ?_
  refine lv_icmp_lt (tgt := 50) hx hb md_next_39 (by decide) (fun _ => ?_) (fun h => absurd (by decide) h)
  refine lv_aload_n hx hb md_next_50 rfl (lv_at hl 2 rfl) ?_
  refine lv_iload_n hx hb md_next_51 rfl (lv_at hl 1 rfl) ?_
  refine lv_iconst (v := (1)) hx hb md_next_52 (by decide) ?_
  refine lv_iadd hx hb md_next_53 ?_
  refine rg_put hk hW hx hb (own := "java/util/ArrayList$Itr") hown qf_ArrayListItr_cursor (by decide +kernel) (by decide +kernel) qc_ArrayListItr (by decide +kernel) rfl rfl (Or.inl rfl) hB rfl rfl md_next_54 (fun H1 z1 k1 n1 => ?_)
  have hne : ∀ x, x < 148 → x ≠ a := fun x h => by omega
  refine lv_aload_n hx hb md_next_57 rfl (lv_at hl 0 rfl) ?_
  refine lv_aload_n hx hb md_next_58 rfl (lv_at hl 2 rfl) ?_
  refine lv_iload_n hx hb md_next_59 rfl (lv_at hl 1 rfl) ?_
  refine lv_dup_x1 hx hb md_next_60 rfl rfl ?_
  refine rg_put hk hW hx hb (own := "java/util/ArrayList$Itr") hown qf_ArrayListItr_lastRet (by decide +kernel) (by decide +kernel) qc_ArrayListItr (by decide +kernel) rfl rfl (Or.inl rfl) n1 rfl rfl md_next_61 (fun H2 z2 k2 n2 => ?_)
  refine rg_aald hk hW hx hb (k := 57) (.object "java/lang/Object") (by decide +kernel) rfl (v := .ref 142) (((rHB.at hR 11 rfl).kept (k1 143 (hne 143 (by decide)))).kept (k2 143 (hne 143 (by decide)))) 0 rfl (by decide) md_next_64 ?_
  exact W.aret (v := .ref 142) hx hb hr (Or.inl ⟨_, rfl⟩) (Or.inr ⟨_, rfl⟩) (fun t ht _ => rg_q (by rw [ht]; exact ⟨rfl, z2.trans z1, fun x hx => (k2 x hx).trans (k1 x hx), n2.sub [1, 3] rfl⟩)) (by simp) md_next_65
end
section
/-! CONTRACTS, the reference's rows -/
set_option maxHeartbeats 1000000 in
set_option maxRecDepth 100000 in
theorem c_seen {t0 : State} (hk : rK t0) (sz : Nat) : RM t0 my_seen mb_seen 5 (some (.object "java/util/ArrayList")) 4 150 2 7 [.ref 126, .ref 146] (fun H => H.size = sz ∧ rHB H) (fun H v H1 => v = some (.ref sz) ∧ H1.size = sz + 2 ∧ (∀ x, x < sz → H1[x]? = H[x]?) ∧ rc_at H1 sz 47 3 [(0, .int 0), (2, .int 0)]) (fun x => sz ≤ x) := by
  refine rg_body (by decide +kernel) (Nat.le_of_ble_eq_true rfl) (fun p e s m below meth c ls hx hb hml hr hlocks hown hname hW hB hl => ?_)
  have hl : lv_has ls 5 [(0, .ref 126), (1, .ref 146)] := hl
  obtain ⟨hsz, hR⟩ := hB
  subst hsz
  have h148 := hR.1
  refine rg_new hk hW hx hb (own := "TimeStoreModel") hown (n := 3) qc_ArrayList (by decide +kernel) (by decide +kernel) (by decide +kernel) (by decide +kernel) rfl (vs := [(0, .int 0), (1, .null), (2, .int 0)]) (by decide +kernel) (Nat.le_of_ble_eq_true rfl) (Nat.le_of_ble_eq_true rfl) md_seen_0 (fun H1 z1 k1 n1 => ?_)
  have hR1 : rHB H1 := hR.kept (by omega) (fun q h _ => k1 q h)
  refine lv_dup hx hb md_seen_3 rfl ?_
  refine rg_ci hk hW hx hb hml hl.1 (own := "TimeStoreModel") hown (rest := [.ref s.heap.size]) (c_ali hk s.heap.size) (⟨n1, hR1.2.2⟩) rfl 0 rfl (by decide +kernel) ⟨by decide +kernel, by decide +kernel, by decide +kernel⟩ ⟨Nat.le_of_ble_eq_true rfl, Nat.le_of_ble_eq_true rfl⟩ (Nat.le_of_ble_eq_true rfl) ⟨Nat.le_of_ble_eq_true rfl, Nat.le_of_ble_eq_true rfl⟩ md_seen_4 rfl (fun v H2 L2 hp hL2 => ?_)
  obtain ⟨rfl, z2, k2, n2⟩ := hp
  refine W.eq (g2 := F0 m 7 ls [.ref s.heap.size]) rfl ?_
  have hR2 : rHB H2 := hR.kept (by omega) (fun q h _ => (k2 q (by omega)).trans (k1 q h))
  refine lv_astore_n (lv' := [(2, .ref s.heap.size), (0, .ref 126), (1, .ref 146)]) hx hb md_seen_7 rfl hl (by decide) rfl (fun ls hl => ?_)
  refine lv_aload_n hx hb md_seen_8 rfl (lv_at hl 1 rfl) ?_
  refine lv_aload_n hx hb md_seen_9 rfl (lv_at hl 2 rfl) ?_
  refine lv_iconst (v := (0)) hx hb md_seen_10 (by decide) ?_
  refine rg_iald hk hW hx hb (k := 49) (by decide +kernel) (v := .int 0) (rHB.at hR2 9 rfl) 0 rfl (by decide) md_seen_11 ?_
  refine rg_cv hk hW hx hb hml hl.1 (own := "TimeStoreModel") hown (rest := []) (c_of hk) qc_TimeStoreModel.2.2 (by decide +kernel) (rHB.at hR2 6 rfl) (hR2) 1 rfl (by decide +kernel) ⟨by decide +kernel, by decide +kernel, by decide +kernel⟩ ⟨Nat.le_of_ble_eq_true rfl, Nat.le_of_ble_eq_true rfl⟩ (Nat.le_of_ble_eq_true rfl) ⟨Nat.le_of_ble_eq_true rfl, Nat.le_of_ble_eq_true rfl⟩ md_seen_12 rfl (fun v H1 L hp hL => ?_)
  obtain ⟨rfl, rfl⟩ := hp
  obtain rfl : L = [] := rg_nil hL
  refine W.eq (g2 := F0 m 15 ls [.ref 127]) rfl ?_
  refine rg_cv hk hW hx hb hml hl.1 (own := "TimeStoreModel") hown (rest := []) (c_iter hk 127 1 (s.heap.size + 1)) qc_ArrayList.2.2 (by decide +kernel) (rHB.at hR2 10 rfl) (⟨z2.trans z1, (rHB.at hR2 10 rfl).sub [0] rfl⟩) 0 rfl (by decide +kernel) ⟨by decide +kernel, by decide +kernel, by decide +kernel⟩ ⟨Nat.le_of_ble_eq_true rfl, Nat.le_of_ble_eq_true rfl⟩ (Nat.le_of_ble_eq_true rfl) ⟨Nat.le_of_ble_eq_true rfl, Nat.le_of_ble_eq_true rfl⟩ md_seen_15 rfl (fun v H3 L3 hp hL3 => ?_)
  obtain ⟨rfl, z3, k3, n3⟩ := hp
  refine W.eq (g2 := F0 m 18 ls [.ref (s.heap.size + 1)]) rfl ?_
  have hR3 : rHB H3 := hR.kept (by omega) (fun q h _ => (k3 q (by omega)).trans ((k2 q (by omega)).trans (k1 q h)))
  refine lv_astore_n (lv' := [(3, .ref (s.heap.size + 1)), (2, .ref s.heap.size), (0, .ref 126), (1, .ref 146)]) hx hb md_seen_18 rfl hl (by decide) rfl (fun ls hl => ?_)
  refine lv_aload_n hx hb md_seen_19 rfl (lv_at hl 0 rfl) ?_
  refine rg_cf hk hW hx hb hml hl.1 (own := "TimeStoreModel") hown (x := my_i_hasNext) (rest := []) (c_hasNext1 hk (s.heap.size + 1) 127 0 1 (by decide)) qc_ArrayListItr.2.2 (by decide +kernel) n3 (⟨n3.sub [3, 2] rfl, (rHB.at hR3 10 rfl).sub [2] rfl⟩) 0 rfl (by decide +kernel) (by decide +kernel) ⟨by decide +kernel, by decide +kernel, by decide +kernel⟩ ⟨Nat.le_of_ble_eq_true rfl, Nat.le_of_ble_eq_true rfl⟩ (Nat.le_of_ble_eq_true rfl) ⟨Nat.le_of_ble_eq_true rfl, Nat.le_of_ble_eq_true rfl⟩ md_seen_20 rfl (fun v H1 L hp hL => ?_)
  obtain ⟨rfl, rfl⟩ := hp
  obtain rfl : L = [] := rg_nil hL
  refine W.eq (g2 := F0 m 25 ls [.int 1]) rfl ?_
  refine lv_if_eq (tgt := 75) hx hb md_seen_25 (by decide) (fun h => absurd h (by decide)) (fun _ => ?_)
  refine lv_aload_n hx hb md_seen_28 rfl (lv_at hl 0 rfl) ?_
  refine rg_cf hk hW hx hb hml hl.1 (own := "TimeStoreModel") hown (x := my_i_next) (rest := []) (c_next hk (s.heap.size + 1)) qc_ArrayListItr.2.2 (by decide +kernel) n3 (⟨hR3, n3, by omega⟩) 0 rfl (by decide +kernel) (by decide +kernel) ⟨by decide +kernel, by decide +kernel, by decide +kernel⟩ ⟨Nat.le_of_ble_eq_true rfl, Nat.le_of_ble_eq_true rfl⟩ (Nat.le_of_ble_eq_true rfl) ⟨Nat.le_of_ble_eq_true rfl, Nat.le_of_ble_eq_true rfl⟩ md_seen_29 rfl (fun v H4 L4 hp hL4 => ?_)
  obtain ⟨rfl, z4, k4, n4⟩ := hp
  refine W.eq (g2 := F0 m 34 ls [.ref 142]) rfl ?_
  have hR4 : rHB H4 := hR.kept (by omega) (fun q h _ => (k4 q (by omega)).trans ((k3 q (by omega)).trans ((k2 q (by omega)).trans (k1 q h))))
  refine rg_cast hk hW hx hb (own := "TimeStoreModel") hown (nm := "[I") (by decide +kernel) (rHB.at hR4 12 rfl) (rg_I hk hW) md_seen_34 ?_
  refine lv_astore (lv' := [(4, .ref 142), (3, .ref (s.heap.size + 1)), (2, .ref s.heap.size), (0, .ref 126), (1, .ref 146)]) hx hb md_seen_37 hl (by decide) rfl (fun ls hl => ?_)
  refine lv_aload hx hb md_seen_39 (lv_at hl 0 rfl) ?_
  refine lv_iconst (v := (1)) hx hb md_seen_41 (by decide) ?_
  refine rg_iald hk hW hx hb (k := 49) (by decide +kernel) (v := .int 0) (rHB.at hR4 12 rfl) 1 rfl (by decide) md_seen_42 ?_
  refine lv_aload_n hx hb md_seen_43 rfl (lv_at hl 4 rfl) ?_
  refine lv_iconst (v := (1)) hx hb md_seen_44 (by decide) ?_
  refine rg_iald hk hW hx hb (k := 49) (by decide +kernel) (v := .int 0) (rHB.at hR4 9 rfl) 1 rfl (by decide) md_seen_45 ?_
  refine lv_icmp_ne (tgt := 72) hx hb md_seen_46 (by decide) (fun h => absurd (by decide) h) (fun _ => ?_)
  refine lv_aload hx hb md_seen_49 (lv_at hl 0 rfl) ?_
  refine lv_iconst (v := (2)) hx hb md_seen_51 (by decide) ?_
  refine rg_iald hk hW hx hb (k := 49) (by decide +kernel) (v := .int 0) (rHB.at hR4 12 rfl) 2 rfl (by decide) md_seen_52 ?_
  refine lv_aload_n hx hb md_seen_53 rfl (lv_at hl 4 rfl) ?_
  refine lv_iconst (v := (2)) hx hb md_seen_54 (by decide) ?_
  refine rg_iald hk hW hx hb (k := 49) (by decide +kernel) (v := .int 1) (rHB.at hR4 9 rfl) 2 rfl (by decide) md_seen_55 ?_
  refine lv_aload_n hx hb md_seen_56 rfl (lv_at hl 4 rfl) ?_
  refine lv_iconst (v := (3)) hx hb md_seen_57 (by decide) ?_
  refine rg_iald hk hW hx hb (k := 49) (by decide +kernel) (v := .int 999) (rHB.at hR4 9 rfl) 3 rfl (by decide) md_seen_58 ?_
  refine rg_cs hk hW hx hb hml hl.1 (own := "TimeStoreModel") hown (rest := []) (c_isIn0 hk 0 1 999 (by decide)) (trivial) 3 rfl (by decide +kernel) ⟨by decide +kernel, by decide +kernel, by decide +kernel⟩ ⟨Nat.le_of_ble_eq_true rfl, Nat.le_of_ble_eq_true rfl⟩ (Nat.le_of_ble_eq_true rfl) ⟨Nat.le_of_ble_eq_true rfl, Nat.le_of_ble_eq_true rfl⟩ md_seen_59 rfl (fun v H1 L hp hL => ?_)
  obtain ⟨rfl, rfl⟩ := hp
  obtain rfl : L = [] := rg_nil hL
  refine W.eq (g2 := F0 m 62 ls [.int 0]) rfl ?_
  refine lv_if_eq (tgt := 72) hx hb md_seen_62 (by decide) (fun _ => ?_) (fun h => absurd (rfl) h)
  refine lv_goto (tgt := 19) hx hb md_seen_72 (by decide) ?_
  refine lv_aload_n hx hb md_seen_19 rfl (lv_at hl 1 rfl) ?_
  refine rg_cf hk hW hx hb hml hl.1 (own := "TimeStoreModel") hown (x := my_i_hasNext) (rest := []) (c_hasNext0 hk (s.heap.size + 1) 127 (0 + 1) 1 (by decide)) qc_ArrayListItr.2.2 (by decide +kernel) n4 (⟨n4, (rHB.at hR4 10 rfl).sub [2] rfl⟩) 0 rfl (by decide +kernel) (by decide +kernel) ⟨by decide +kernel, by decide +kernel, by decide +kernel⟩ ⟨Nat.le_of_ble_eq_true rfl, Nat.le_of_ble_eq_true rfl⟩ (Nat.le_of_ble_eq_true rfl) ⟨Nat.le_of_ble_eq_true rfl, Nat.le_of_ble_eq_true rfl⟩ md_seen_20 rfl (fun v H1 L hp hL => ?_)
  obtain ⟨rfl, rfl⟩ := hp
  obtain rfl : L = [] := rg_nil hL
  refine W.eq (g2 := F0 m 25 ls [.int 0]) rfl ?_
  refine lv_if_eq (tgt := 75) hx hb md_seen_25 (by decide) (fun _ => ?_) (fun h => absurd (rfl) h)
  refine lv_aload_n hx hb md_seen_75 rfl (lv_at hl 2 rfl) ?_
  exact W.aret (v := .ref s.heap.size) hx hb hr (Or.inl ⟨_, rfl⟩) (Or.inr ⟨_, rfl⟩) (fun t ht _ => rg_q (by rw [ht]; exact ⟨rfl, z4.trans z3, fun x hx => (k4 x (by omega)).trans ((k3 x (by omega)).trans ((k2 x (by omega)).trans (k1 x hx))), ((n2.kept (k3 _ (by omega))).kept (k4 _ (by omega))).sub [1, 2] rfl⟩)) (rg_lap (F := fun x : Nat => s.heap.size ≤ x) (rg_lap (F := fun x : Nat => s.heap.size ≤ x) (rg_lap (F := fun x : Nat => s.heap.size ≤ x) (rg_lap (F := fun x : Nat => s.heap.size ≤ x) (rg_lap (F := fun x : Nat => s.heap.size ≤ x) (rg_lap (F := fun x : Nat => s.heap.size ≤ x) (rg_lap (F := fun x : Nat => s.heap.size ≤ x) (by simp) (fun x h => Nat.le_of_eq (Eq.symm (hL2 x h)))) (by simp)) (fun x h => Nat.le_of_succ_le (hL3 x h))) (by simp)) (fun x h => Nat.le_of_succ_le (Nat.le_of_eq (Eq.symm (hL4 x h))))) (by simp)) (by simp)) md_seen_76
set_option maxHeartbeats 1000000 in
set_option maxRecDepth 100000 in
theorem c_wordsOf {t0 : State} (hk : rK t0) (r sz : Nat) (P : Int32) : RM t0 my_wordsOf mb_wordsOf 6 (some (.object "java/util/ArrayList")) 4 150 2 7 [.ref r, .int 0, .int P] (fun H => H.size = sz ∧ rHB H ∧ rc_at H r 47 3 [(0, .int 0), (2, .int 0)]) (fun H v H1 => v = some (.ref sz) ∧ H1.size = sz + 2 ∧ (∀ x, x < sz → H1[x]? = H[x]?) ∧ rc_at H1 sz 47 3 [(2, .int 0)]) (fun x => sz ≤ x) := by
  refine rg_body (by decide +kernel) (Nat.le_of_ble_eq_true rfl) (fun p e s m below meth c ls hx hb hml hr hlocks hown hname hW hB hl => ?_)
  have hl : lv_has ls 6 [(0, .ref r), (1, .int 0), (2, .int P)] := hl
  obtain ⟨hsz, hR, hC⟩ := hB
  subst hsz
  have h148 := hR.1
  have hlt := hC.lt
  refine rg_new hk hW hx hb (own := "TimeStoreModel") hown (n := 3) qc_ArrayList (by decide +kernel) (by decide +kernel) (by decide +kernel) (by decide +kernel) rfl (vs := [(0, .int 0), (1, .null), (2, .int 0)]) (by decide +kernel) (Nat.le_of_ble_eq_true rfl) (Nat.le_of_ble_eq_true rfl) md_wordsOf_0 (fun H1 z1 k1 n1 => ?_)
  have hR1 : rHB H1 := hR.kept (by omega) (fun q h _ => k1 q h)
  refine lv_dup hx hb md_wordsOf_3 rfl ?_
  refine rg_ci hk hW hx hb hml hl.1 (own := "TimeStoreModel") hown (rest := [.ref s.heap.size]) (c_ali hk s.heap.size) (⟨n1, hR1.2.2⟩) rfl 0 rfl (by decide +kernel) ⟨by decide +kernel, by decide +kernel, by decide +kernel⟩ ⟨Nat.le_of_ble_eq_true rfl, Nat.le_of_ble_eq_true rfl⟩ (Nat.le_of_ble_eq_true rfl) ⟨Nat.le_of_ble_eq_true rfl, Nat.le_of_ble_eq_true rfl⟩ md_wordsOf_4 rfl (fun v H2 L2 hp hL2 => ?_)
  obtain ⟨rfl, z2, k2, n2⟩ := hp
  refine W.eq (g2 := F0 m 7 ls [.ref s.heap.size]) rfl ?_
  have hR2 : rHB H2 := hR.kept (by omega) (fun q h _ => (k2 q (by omega)).trans (k1 q h))
  have hC2 := (hC.kept (k1 _ hlt)).kept (k2 _ (by omega))
  refine lv_astore_n (lv' := [(3, .ref s.heap.size), (0, .ref r), (1, .int 0), (2, .int P)]) hx hb md_wordsOf_7 rfl hl (by decide) rfl (fun ls hl => ?_)
  refine lv_aload_n hx hb md_wordsOf_8 rfl (lv_at hl 1 rfl) ?_
  refine rg_cv hk hW hx hb hml hl.1 (own := "TimeStoreModel") hown (rest := []) (c_iter hk r 0 (s.heap.size + 1)) qc_ArrayList.2.2 (by decide +kernel) hC2 (⟨z2.trans z1, hC2.sub [0] rfl⟩) 0 rfl (by decide +kernel) ⟨by decide +kernel, by decide +kernel, by decide +kernel⟩ ⟨Nat.le_of_ble_eq_true rfl, Nat.le_of_ble_eq_true rfl⟩ (Nat.le_of_ble_eq_true rfl) ⟨Nat.le_of_ble_eq_true rfl, Nat.le_of_ble_eq_true rfl⟩ md_wordsOf_9 rfl (fun v H3 L3 hp hL3 => ?_)
  obtain ⟨rfl, z3, k3, n3⟩ := hp
  refine W.eq (g2 := F0 m 12 ls [.ref (s.heap.size + 1)]) rfl ?_
  have hR3 : rHB H3 := hR.kept (by omega) (fun q h _ => (k3 q (by omega)).trans ((k2 q (by omega)).trans (k1 q h)))
  have hC3 := hC2.kept (k3 _ (by omega))
  refine lv_astore (lv' := [(4, .ref (s.heap.size + 1)), (3, .ref s.heap.size), (0, .ref r), (1, .int 0), (2, .int P)]) hx hb md_wordsOf_12 hl (by decide) rfl (fun ls hl => ?_)
  refine lv_aload hx hb md_wordsOf_14 (lv_at hl 0 rfl) ?_
  refine rg_cf hk hW hx hb hml hl.1 (own := "TimeStoreModel") hown (x := my_i_hasNext) (rest := []) (c_hasNext0 hk (s.heap.size + 1) r 0 0 rfl) qc_ArrayListItr.2.2 (by decide +kernel) n3 (⟨n3.sub [3, 2] rfl, hC3.sub [1] rfl⟩) 0 rfl (by decide +kernel) (by decide +kernel) ⟨by decide +kernel, by decide +kernel, by decide +kernel⟩ ⟨Nat.le_of_ble_eq_true rfl, Nat.le_of_ble_eq_true rfl⟩ (Nat.le_of_ble_eq_true rfl) ⟨Nat.le_of_ble_eq_true rfl, Nat.le_of_ble_eq_true rfl⟩ md_wordsOf_16 rfl (fun v H1 L hp hL => ?_)
  obtain ⟨rfl, rfl⟩ := hp
  obtain rfl : L = [] := rg_nil hL
  refine W.eq (g2 := F0 m 21 ls [.int 0]) rfl ?_
  refine lv_if_eq (tgt := 62) hx hb md_wordsOf_21 (by decide) (fun _ => ?_) (fun h => absurd (rfl) h)
  refine lv_aload_n hx hb md_wordsOf_62 rfl (lv_at hl 1 rfl) ?_
  exact W.aret (v := .ref s.heap.size) hx hb hr (Or.inl ⟨_, rfl⟩) (Or.inr ⟨_, rfl⟩) (fun t ht _ => rg_q (by rw [ht]; exact ⟨rfl, z3, fun x hx => (k3 x (by omega)).trans ((k2 x (by omega)).trans (k1 x hx)), (n2.kept (k3 _ (by omega))).sub [2] rfl⟩)) (rg_lap (F := fun x : Nat => s.heap.size ≤ x) (rg_lap (F := fun x : Nat => s.heap.size ≤ x) (rg_lap (F := fun x : Nat => s.heap.size ≤ x) (by simp) (fun x h => Nat.le_of_eq (Eq.symm (hL2 x h)))) (fun x h => Nat.le_of_succ_le (hL3 x h))) (by simp)) md_wordsOf_63
end
section
/-! CONTRACTS, the minutes of a window -/
theorem rv_sub {ls : Array Slot} {n : Nat} {lv lv' : List (Nat × Value)} (h : lv_has ls n lv) (is : List Nat) (hs : is.map (fun i => lv[i]?) = lv'.map some) : lv_has ls n lv' := by
  refine ⟨h.1, h.2.1, fun q hq => ?_⟩
  have h6 : some q ∈ is.map (fun i => lv[i]?) := by rw [hs]; exact List.mem_map.mpr ⟨q, hq, rfl⟩
  obtain ⟨i, -, hi⟩ := List.mem_map.mp h6
  exact h.2.2 q (List.mem_of_getElem? hi)
set_option maxHeartbeats 1000000 in
set_option maxRecDepth 100000 in
/-- the loop over the minutes: 999 rounds, each leaves two new cells -/
theorem l_per {t0 : State} (hk : rK t0) {p : Program} {e : Env} {s : State} {m : MethodId} {args : Array Value} {below : List Frame} {meth : Method} {c : Code} {Q : State → Prop} (hx : p.tables.exec = Jvm.exec) (hb : c.code = mb_periods) (hml : c.maxLocals = 7) (hown : s.vm.findClass "TimeStoreModel" = some m.cls) (hW : t0.WarmedH s.vm) (sz : Nat) (h148 : 148 ≤ sz)
    (hend : ∀ (H : Heap) (ls : Array Slot) (locs : List Loc), H.size = sz + 2000 → (∀ x, x < sz → H[x]? = s.heap[x]?) → (∀ x ∈ locs, (fun x : Nat => sz ≤ x) x.base) → lv_has ls 7 [(2, .int 0), (3, .int (-9)), (4, .int (-9))] → W p launch0 e (rRm 5 180 2001 7003) s m args below meth c H locs 2000 7000 Q (F0 m 70 ls [])) :
    ∀ (d k : Nat), d + k = 999 → ∀ (H : Heap) (ls : Array Slot) (locs : List Loc) (C S : Nat), C = 2 + 2 * k → S = 7 + 7 * k → H.size = sz + 2 + 2 * k → rHB H → rc_at H sz 47 3 [(0, .int 0), (2, .int 0)] → (∀ x, x < sz → H[x]? = s.heap[x]?) → (∀ x ∈ locs, (fun x : Nat => sz ≤ x) x.base) →
      lv_has ls 7 [(6, .int (nI (k + 1))), (0, .ref 126), (1, .ref 146), (2, .int 0), (3, .int (-9)), (4, .int (-9)), (5, .ref sz)] → W p launch0 e (rRm 5 180 2001 7003) s m args below meth c H locs C S Q (F0 m 21 ls []) := by
  intro d
  induction d with
  | zero =>
    intro k hdk H ls locs C S hC hS hz hR hse hkeep hL0 hl
    obtain rfl : k = 999 := by omega
    subst hC; subst hS
    refine lv_iload hx hb md_periods_21 (lv_at hl 0 rfl) ?_
    refine lv_aload_n hx hb md_periods_23 rfl (lv_at hl 2 rfl) ?_
    refine lv_iconst (v := (3)) hx hb md_periods_24 (by decide) ?_
    refine rg_iald hk hW hx hb (k := 49) (by decide +kernel) (v := .int 999) (rHB.at hR 9 rfl) 3 rfl (by decide) md_periods_25 ?_
    refine lv_icmp_gt (tgt := 70) hx hb md_periods_26 (by decide) (fun _ => ?_) (fun h => absurd ((by decide : (999 : Int32) < nI (999 + 1))) h)
    exact hend H ls locs (by omega) hkeep hL0 (rv_sub hl [3, 4, 5] rfl)
  | succ d ih =>
    intro k hdk H ls locs C S hC hS hz hR hse hkeep hL0 hl
    refine lv_iload hx hb md_periods_21 (lv_at hl 0 rfl) ?_
    refine lv_aload_n hx hb md_periods_23 rfl (lv_at hl 2 rfl) ?_
    refine lv_iconst (v := (3)) hx hb md_periods_24 (by decide) ?_
    refine rg_iald hk hW hx hb (k := 49) (by decide +kernel) (v := .int 999) (rHB.at hR 9 rfl) 3 rfl (by decide) md_periods_25 ?_
    refine lv_icmp_gt (tgt := 70) hx hb md_periods_26 (by decide) (fun h => absurd h (nI_nlt (a := 999) (b := k + 1) (by omega) (by omega))) (fun _ => ?_)
    refine lv_aload hx hb md_periods_29 (lv_at hl 6 rfl) ?_
    refine lv_aload_n hx hb md_periods_31 rfl (lv_at hl 2 rfl) ?_
    refine lv_iconst (v := (1)) hx hb md_periods_32 (by decide) ?_
    refine rg_iald hk hW hx hb (k := 49) (by decide +kernel) (v := .int 0) (rHB.at hR 9 rfl) 1 rfl (by decide) md_periods_33 ?_
    refine lv_iload hx hb md_periods_34 (lv_at hl 0 rfl) ?_
    refine rg_cs hk hW hx hb hml hl.1 (own := "TimeStoreModel") hown (rest := []) (c_wordsOf hk sz (sz + 2 + 2 * k) (nI (k + 1))) (⟨hz, hR, hse⟩) 3 rfl (by decide +kernel) ⟨by decide +kernel, by decide +kernel, by decide +kernel⟩ ⟨Nat.le_of_ble_eq_true rfl, Nat.le_of_ble_eq_true rfl⟩ (Nat.le_of_ble_eq_true rfl) ⟨by show C + 2 ≤ 2001; omega, by show S + 7 ≤ 7003; omega⟩ md_periods_36 rfl (fun v H1 L1 hp hL1 => ?_)
    obtain ⟨rfl, z1, k1, n1⟩ := hp
    refine W.eq (g2 := F0 m 39 ls [.ref (sz + 2 + 2 * k)]) rfl ?_
    refine rg_cv hk hW hx hb hml hl.1 (own := "TimeStoreModel") hown (rest := []) (c_size hk (sz + 2 + 2 * k) 0) qc_ArrayList.2.2 (by decide +kernel) n1 (n1) 0 rfl (by decide +kernel) ⟨by decide +kernel, by decide +kernel, by decide +kernel⟩ ⟨Nat.le_of_ble_eq_true rfl, Nat.le_of_ble_eq_true rfl⟩ (Nat.le_of_ble_eq_true rfl) ⟨by show C + 2 + 0 ≤ 2001; omega, by show S + 7 + 0 ≤ 7003; omega⟩ md_periods_39 rfl (fun v H1 L hp hL => ?_)
    obtain ⟨rfl, rfl⟩ := hp
    obtain rfl : L = [] := rg_nil hL
    refine W.eq (g2 := F0 m 42 ls [.int 0]) rfl ?_
    refine lv_if_ne (tgt := 48) hx hb md_periods_42 (by decide) (fun h => absurd (rfl) h) (fun _ => ?_)
    refine lv_goto (tgt := 64) hx hb md_periods_45 (by decide) ?_
    refine lv_iinc (v := ((nI (k + 1)) + Int32.ofInt (1))) (lv' := [(6, .int ((nI (k + 1)) + Int32.ofInt (1))), (0, .ref 126), (1, .ref 146), (2, .int 0), (3, .int (-9)), (4, .int (-9)), (5, .ref sz)]) hx hb md_periods_64 hl (k := 0) rfl rfl (by decide) rfl (fun ls hl => ?_)
    refine lv_goto (tgt := 21) hx hb md_periods_67 (by decide) ?_
    have e1 : nI (k + 1) + Int32.ofInt (1) = nI (k + 1 + 1) := nI_1 (k + 1)
    rw [e1] at hl
    refine ih (k + 1) (by omega) H1 ls _ _ _ (by omega) (by omega) (by omega) (hR.kept (by omega) (fun q h _ => k1 q (by omega))) (hse.kept (k1 _ (by omega))) (fun x h => (k1 x (by omega)).trans (hkeep x h)) (rg_lap (F := fun x : Nat => sz ≤ x) (rg_lap (F := fun x : Nat => sz ≤ x) hL0 (fun x h => Nat.le_trans (by omega) (hL1 x h))) (by simp)) hl
set_option maxHeartbeats 1000000 in
set_option maxRecDepth 100000 in
theorem c_periods {t0 : State} (hk : rK t0) (sz : Nat) : RM t0 my_periods mb_periods 7 (some (.array .int)) 5 180 2001 7003 [.ref 126, .ref 146] (fun H => H.size = sz ∧ rHB H) (fun H v H1 => ∃ h : Nat, v = some (.ref h) ∧ rI H1 h 3 ∧ H1.size = sz + 2001 ∧ ∀ x, x < sz → H1[x]? = H[x]?) (fun x => sz ≤ x) := by
  refine rg_body (by decide +kernel) (Nat.le_of_ble_eq_true rfl) (fun p e s m below meth c ls hx hb hml hr hlocks hown hname hW hB hl => ?_)
  have hl : lv_has ls 7 [(0, .ref 126), (1, .ref 146)] := hl
  obtain ⟨hsz, hR⟩ := hB
  subst hsz
  have h148 := hR.1
  refine lv_iconst (v := (0)) hx hb md_periods_0 (by decide) ?_
  refine lv_istore_n (lv' := [(2, .int (0)), (0, .ref 126), (1, .ref 146)]) hx hb md_periods_1 rfl hl (by decide) rfl (fun ls hl => ?_)
  refine lv_bipush (v := (-9)) hx hb md_periods_2 (by decide) ?_
  refine lv_istore_n (lv' := [(3, .int (-9)), (2, .int (0)), (0, .ref 126), (1, .ref 146)]) hx hb md_periods_4 rfl hl (by decide) rfl (fun ls hl => ?_)
  refine lv_bipush (v := (-9)) hx hb md_periods_5 (by decide) ?_
  refine lv_istore (lv' := [(4, .int (-9)), (3, .int (-9)), (2, .int (0)), (0, .ref 126), (1, .ref 146)]) hx hb md_periods_7 hl (by decide) rfl (fun ls hl => ?_)
  refine lv_aload_n hx hb md_periods_9 rfl (lv_at hl 3 rfl) ?_
  refine lv_aload_n hx hb md_periods_10 rfl (lv_at hl 4 rfl) ?_
  refine rg_cv hk hW hx hb hml hl.1 (own := "TimeStoreModel") hown (rest := []) (c_seen hk s.heap.size) qc_TimeStoreModel.2.2 (by decide +kernel) (rHB.at hR 6 rfl) (⟨rfl, hR⟩) 1 rfl (by decide +kernel) ⟨by decide +kernel, by decide +kernel, by decide +kernel⟩ ⟨Nat.le_of_ble_eq_true rfl, Nat.le_of_ble_eq_true rfl⟩ (Nat.le_of_ble_eq_true rfl) ⟨Nat.le_of_ble_eq_true rfl, Nat.le_of_ble_eq_true rfl⟩ md_periods_11 rfl (fun v H1 L1 hp hL1 => ?_)
  obtain ⟨rfl, z1, k1, n1⟩ := hp
  refine W.eq (g2 := F0 m 14 ls [.ref s.heap.size]) rfl ?_
  have hR1 : rHB H1 := hR.kept (by omega) (fun q h _ => k1 q h)
  refine lv_astore (lv' := [(5, .ref s.heap.size), (4, .int (-9)), (3, .int (-9)), (2, .int (0)), (0, .ref 126), (1, .ref 146)]) hx hb md_periods_14 hl (by decide) rfl (fun ls hl => ?_)
  refine lv_aload_n hx hb md_periods_16 rfl (lv_at hl 5 rfl) ?_
  refine lv_iconst (v := (2)) hx hb md_periods_17 (by decide) ?_
  refine rg_iald hk hW hx hb (k := 49) (by decide +kernel) (v := .int 1) (rHB.at hR1 9 rfl) 2 rfl (by decide) md_periods_18 ?_
  refine lv_istore (lv' := [(6, .int 1), (5, .ref s.heap.size), (4, .int (-9)), (3, .int (-9)), (2, .int (0)), (0, .ref 126), (1, .ref 146)]) hx hb md_periods_19 hl (by decide) rfl (fun ls hl => ?_)
  refine l_per hk hx hb hml hown hW s.heap.size h148 (fun H5 ls locs z5 k5 hL5 hl => ?_) 999 0 rfl H1 ls _ _ _ rfl rfl z1 hR1 n1 k1 (rg_lap (F := fun x : Nat => s.heap.size ≤ x) (by simp) hL1) (rv_sub hl [0, 5, 6, 4, 3, 2, 1] rfl)
  refine lv_iconst (v := (3)) hx hb md_periods_70 (by decide) ?_
  refine rg_newa hk hW hx hb (by decide +kernel) (i := 3) (n := 3) (by decide) (by decide) (by decide) (Nat.le_of_ble_eq_true rfl) (Nat.le_of_ble_eq_true rfl) md_periods_71 (fun H6 z6 k6 n6 => ?_)
  refine lv_dup hx hb md_periods_73 rfl ?_
  refine lv_iconst (v := (0)) hx hb md_periods_74 (by decide) ?_
  refine lv_iload_n hx hb md_periods_75 rfl (lv_at hl 0 rfl) ?_
  refine rg_iast hk hW hx hb (by decide +kernel) n6 (by decide) md_periods_76 (fun H7 y7 z7 k7 n7 => ?_)
  refine lv_dup hx hb md_periods_77 rfl ?_
  refine lv_iconst (v := (1)) hx hb md_periods_78 (by decide) ?_
  refine lv_iload_n hx hb md_periods_79 rfl (lv_at hl 1 rfl) ?_
  refine rg_iast hk hW hx hb (by decide +kernel) n7 (by decide) md_periods_80 (fun H8 y8 z8 k8 n8 => ?_)
  refine lv_dup hx hb md_periods_81 rfl ?_
  refine lv_iconst (v := (2)) hx hb md_periods_82 (by decide) ?_
  refine lv_iload hx hb md_periods_83 (lv_at hl 2 rfl) ?_
  refine rg_iast hk hW hx hb (by decide +kernel) n8 (by decide) md_periods_85 (fun H9 y9 z9 k9 n9 => ?_)
  have hA : ∀ x, x < H5.size → H9[x]? = H5[x]? := fun x hx => (k9 x (by omega)).trans ((k8 x (by omega)).trans ((k7 x (by omega)).trans (k6 x hx)))
  exact W.aret (v := .ref H5.size) hx hb hr (Or.inr ⟨_, rfl⟩) (Or.inr ⟨_, rfl⟩) (fun t ht _ => rg_q (by rw [ht]; exact ⟨H5.size, rfl, n9, by omega, fun x hx => (hA x (by omega)).trans (k5 x hx)⟩)) (rg_lap (F := fun x : Nat => s.heap.size ≤ x) (rg_lap (F := fun x : Nat => s.heap.size ≤ x) (rg_lap (F := fun x : Nat => s.heap.size ≤ x) hL5 (rg_lone (F := fun x : Nat => s.heap.size ≤ x) (by omega))) (rg_lone (F := fun x : Nat => s.heap.size ≤ x) (by omega))) (rg_lone (F := fun x : Nat => s.heap.size ≤ x) (by omega))) md_periods_86
end
section
/-! CONTRACTS, the two sides of ofWindow(0, 5) as the law calls them -/
set_option maxHeartbeats 1000000 in
set_option maxRecDepth 100000 in
theorem c_mofWin {t0 : State} (hk : rK t0) (sz : Nat) : RM t0 my_mofWin mb_mofWin 4 (some .int) 6 220 2001 7003 [.ref 126, .int 0, .int 5] (fun H => H.size = sz ∧ rHB H) (fun H v H1 => ∃ r : Int32, v = some (.int r) ∧ H1.size = sz + 2001 ∧ ∀ x, x < sz → H1[x]? = H[x]?) (fun x => x = 126 ∨ sz ≤ x) := by
  refine rg_body (by decide +kernel) (Nat.le_of_ble_eq_true rfl) (fun p e s m below meth c ls hx hb hml hr hlocks hown hname hW hB hl => ?_)
  have hl : lv_has ls 4 [(0, .ref 126), (1, .int 0), (2, .int 5)] := hl
  obtain ⟨hsz, hR⟩ := hB
  subst hsz
  have h148 := hR.1
  refine lv_aload_n hx hb md_mofWin_0 rfl (lv_at hl 0 rfl) ?_
  refine lv_aload_n hx hb md_mofWin_1 rfl (lv_at hl 0 rfl) ?_
  refine lv_iload_n hx hb md_mofWin_2 rfl (lv_at hl 1 rfl) ?_
  refine rg_cv hk hW hx hb hml hl.1 (own := "TimeStoreModel") hown (rest := [.ref 126]) (c_isNoWin hk) qc_TimeStoreModel.2.2 (by decide +kernel) (rHB.at hR 6 rfl) (hR) 1 rfl (by decide +kernel) ⟨by decide +kernel, by decide +kernel, by decide +kernel⟩ ⟨Nat.le_of_ble_eq_true rfl, Nat.le_of_ble_eq_true rfl⟩ (Nat.le_of_ble_eq_true rfl) ⟨Nat.le_of_ble_eq_true rfl, Nat.le_of_ble_eq_true rfl⟩ md_mofWin_3 rfl (fun v H1 L hp hL => ?_)
  obtain ⟨rfl, rfl⟩ := hp
  obtain rfl : L = [] := rg_nil hL
  refine W.eq (g2 := F0 m 6 ls [.int 0, .ref 126]) rfl ?_
  refine lv_iconst (v := (1)) hx hb md_mofWin_6 (by decide) ?_
  refine rg_cv hk hW hx hb hml hl.1 (own := "TimeStoreModel") hown (rest := []) (c_start hk 1) qc_TimeStoreModel.2.2 (by decide +kernel) (rHB.at hR 6 rfl) (hR) 2 rfl (by decide +kernel) ⟨by decide +kernel, by decide +kernel, by decide +kernel⟩ ⟨Nat.le_of_ble_eq_true rfl, Nat.le_of_ble_eq_true rfl⟩ (Nat.le_of_ble_eq_true rfl) ⟨Nat.le_of_ble_eq_true rfl, Nat.le_of_ble_eq_true rfl⟩ md_mofWin_7 rfl (fun v H1 L1 hp hL1 => ?_)
  obtain ⟨rfl, rfl⟩ := hp
  refine W.eq (g2 := F0 m 10 ls [.int 0]) rfl ?_
  refine lv_if_ne (tgt := 36) hx hb md_mofWin_10 (by decide) (fun h => absurd (rfl) h) (fun _ => ?_)
  refine lv_aload_n hx hb md_mofWin_13 rfl (lv_at hl 0 rfl) ?_
  refine lv_iload_n hx hb md_mofWin_14 rfl (lv_at hl 2 rfl) ?_
  refine lv_iconst (v := (0)) hx hb md_mofWin_15 (by decide) ?_
  refine lv_bipush (v := (6)) hx hb md_mofWin_16 (by decide) ?_
  refine rg_cs hk hW hx hb hml hl.1 (own := "TimeStoreModel") hown (rest := [.ref 126]) (c_isIn1 hk 5 0 6 (by decide) (by decide)) (trivial) 3 rfl (by decide +kernel) ⟨by decide +kernel, by decide +kernel, by decide +kernel⟩ ⟨Nat.le_of_ble_eq_true rfl, Nat.le_of_ble_eq_true rfl⟩ (Nat.le_of_ble_eq_true rfl) ⟨Nat.le_of_ble_eq_true rfl, Nat.le_of_ble_eq_true rfl⟩ md_mofWin_18 rfl (fun v H1 L hp hL => ?_)
  obtain ⟨rfl, rfl⟩ := hp
  obtain rfl : L = [] := rg_nil hL
  refine W.eq (g2 := F0 m 21 ls [.int 1, .ref 126]) rfl ?_
  refine lv_if_ne (tgt := 28) hx hb md_mofWin_21 (by decide) (fun _ => ?_) (fun h => absurd h (by decide))
  refine lv_iconst (v := (0)) hx hb md_mofWin_28 (by decide) ?_
  refine lv_iconst (v := (2)) hx hb md_mofWin_29 (by decide) ?_
  refine rg_cv hk hW hx hb hml hl.1 (own := "TimeStoreModel") hown (rest := []) (c_refuse hk 2) qc_TimeStoreModel.2.2 (by decide +kernel) (rHB.at hR 6 rfl) (hR) 2 rfl (by decide +kernel) ⟨by decide +kernel, by decide +kernel, by decide +kernel⟩ ⟨Nat.le_of_ble_eq_true rfl, Nat.le_of_ble_eq_true rfl⟩ (Nat.le_of_ble_eq_true rfl) ⟨Nat.le_of_ble_eq_true rfl, Nat.le_of_ble_eq_true rfl⟩ md_mofWin_30 rfl (fun v H1 L hp hL => ?_)
  obtain ⟨rfl, rfl⟩ := hp
  obtain rfl : L = [] := rg_nil hL
  refine W.eq (g2 := F0 m 33 ls [.int 0]) rfl ?_
  refine lv_if_eq (tgt := 38) hx hb md_mofWin_33 (by decide) (fun _ => ?_) (fun h => absurd (rfl) h)
  refine lv_aload_n hx hb md_mofWin_38 rfl (lv_at hl 0 rfl) ?_
  refine rg_get hk hW hx hb (own := "TimeStoreModel")  hown qf_TimeStoreModel_windows (by decide +kernel) (by decide +kernel) (v := .ref 138) (rHB.at hR 6 rfl) 2 rfl md_mofWin_39 ?_
  refine lv_iload_n hx hb md_mofWin_42 rfl (lv_at hl 1 rfl) ?_
  refine rg_cv hk hW hx hb hml hl.1 (own := "TimeStoreModel") hown (rest := []) (c_get hk) qc_ArrayList.2.2 (by decide +kernel) (rHB.at hR 7 rfl) (hR) 1 rfl (by decide +kernel) ⟨by decide +kernel, by decide +kernel, by decide +kernel⟩ ⟨Nat.le_of_ble_eq_true rfl, Nat.le_of_ble_eq_true rfl⟩ (Nat.le_of_ble_eq_true rfl) ⟨Nat.le_of_ble_eq_true rfl, Nat.le_of_ble_eq_true rfl⟩ md_mofWin_43 rfl (fun v H1 L hp hL => ?_)
  obtain ⟨rfl, rfl⟩ := hp
  obtain rfl : L = [] := rg_nil hL
  refine W.eq (g2 := F0 m 46 ls [.ref 146]) rfl ?_
  refine rg_cast hk hW hx hb (own := "TimeStoreModel") hown (nm := "[I") (by decide +kernel) (rHB.at hR 9 rfl) (rg_I hk hW) md_mofWin_46 ?_
  refine lv_astore_n (lv' := [(3, .ref 146), (0, .ref 126), (1, .int 0), (2, .int 5)]) hx hb md_mofWin_49 rfl hl (by decide) rfl (fun ls hl => ?_)
  refine lv_iload_n hx hb md_mofWin_50 rfl (lv_at hl 3 rfl) ?_
  refine lv_iconst (v := (4)) hx hb md_mofWin_51 (by decide) ?_
  refine lv_icmp_ge (tgt := 61) hx hb md_mofWin_52 (by decide) (fun _ => ?_) (fun h => absurd (by decide) h)
  refine lv_aload_n hx hb md_mofWin_61 rfl (lv_at hl 1 rfl) ?_
  refine lv_aload_n hx hb md_mofWin_62 rfl (lv_at hl 0 rfl) ?_
  refine rg_cv hk hW hx hb hml hl.1 (own := "TimeStoreModel") hown (rest := []) (c_periods hk s.heap.size) qc_TimeStoreModel.2.2 (by decide +kernel) (rHB.at hR 6 rfl) (⟨rfl, hR⟩) 1 rfl (by decide +kernel) ⟨by decide +kernel, by decide +kernel, by decide +kernel⟩ ⟨Nat.le_of_ble_eq_true rfl, Nat.le_of_ble_eq_true rfl⟩ (Nat.le_of_ble_eq_true rfl) ⟨Nat.le_of_ble_eq_true rfl, Nat.le_of_ble_eq_true rfl⟩ md_mofWin_63 rfl (fun v H1 L3 hp hL3 => ?_)
  obtain ⟨h, rfl, n1, z1, k1⟩ := hp
  refine W.eq (g2 := F0 m 66 ls [.ref h]) rfl ?_
  refine lv_iload_n hx hb md_mofWin_66 rfl (lv_at hl 3 rfl) ?_
  refine lv_iconst (v := (4)) hx hb md_mofWin_67 (by decide) ?_
  refine lv_isub hx hb md_mofWin_68 ?_
  refine rg_ialdI hk hW hx hb (by decide +kernel) (n := 3) n1 (by decide) (by decide) md_mofWin_69 (fun r => ?_)
  exact W.iret (v := r) hx hb hr (fun t ht _ => rg_q (by rw [ht]; exact ⟨r, rfl, z1, k1⟩)) (rg_lap (F := fun x : Nat => x = 126 ∨ s.heap.size ≤ x) (rg_lap (F := fun x : Nat => x = 126 ∨ s.heap.size ≤ x) (rg_lap (F := fun x : Nat => x = 126 ∨ s.heap.size ≤ x) (rg_lap (F := fun x : Nat => x = 126 ∨ s.heap.size ≤ x) (rg_lap (F := fun x : Nat => x = 126 ∨ s.heap.size ≤ x) (rg_lap (F := fun x : Nat => x = 126 ∨ s.heap.size ≤ x) (by simp) (by simp)) (fun x h => Or.inl (hL1 x h))) (by simp)) (by simp)) (by simp)) (fun x h => Or.inr (hL3 x h))) md_mofWin_70
/-- a contract over cells of a method with handlers -/
def RMW (t0 : State) (y : MethodName) (b : ByteArray) (maxL : Nat) (ret : Option FieldType) (hh : List (Nat × Nat × Nat × Nat)) (fr lo mc ms : Nat) (av : List Value) (B : Heap → Prop) (post : Heap → Option Value → Heap → Prop) (free : Addr → Prop) : Prop :=
  Met launch0 y [.codeWith y b maxL ret hh] (rRm fr lo mc ms) (rP t0 av B) (rQ post) mc ms free
theorem rg_bodyW {t0 : State} {y : MethodName} {b : ByteArray} {maxL : Nat} {ret : Option FieldType} {hh : List (Nat × Nat × Nat × Nat)} {fr lo mc ms : Nat} {av : List Value} {B : Heap → Prop} {post : Heap → Option Value → Heap → Prop} {free : Addr → Prop} (hy : plainName y.cls = true) (hn : (lg_sl av).length ≤ maxL)
    (h : ∀ (p : Program) (e : Env) (s : State) (m : MethodId) (below : List Frame) (meth : Method) (c : Code) (ls : Array Slot), p.tables.exec = Jvm.exec → c.code = b → c.maxLocals = maxL → meth.sig.returnType = ret → meth.locks = false → s.vm.findClass y.cls = some m.cls → meth.name = y.name → t0.WarmedH s.vm → B s.heap → lv_has ls maxL (lv_args 0 av) →
      W p launch0 e (rRm fr lo mc ms) s m av.toArray below meth c s.heap [] 0 0 (MQ below (rQ post) av.toArray s mc ms free) (F0 m 0 ls [])) : RMW t0 y b maxL ret hh fr lo mc ms av B post free := by
  refine va_MetW (cc := b) (maxL := maxL) (ret := ret) (hh := hh) hy rfl ?_
  intro p e s m args below meth c s₁ BL hml hv
  obtain ⟨rfl, hW, hB⟩ := hv
  have hl := lv_entry av (n := maxL) hn
  have key := h p e s m below meth c _ BL.exec BL.bytes hml BL.returns BL.notSynchronized (findClass_of_methodNamed BL.named) (name_of_methodNamed BL.named BL.method).1 hW hB hl
  rw [lg_entry_eq]
  exact key
section RF
variable {t0 : State} {p : Program} {e : Env} {R : Room} {s : State} {m : MethodId} {args : Array Value} {below : List Frame} {meth : Method} {c : Code} {H : Heap} {locs : List Loc} {cells slots : Nat} {Q : State → Prop} {cc : ByteArray} {pc : Nat} {ls : Array Slot} {rest : List Value}
/-- invokestatic of a method with handlers -/
theorem rg_csw (hk : rK t0) (hW : t0.WarmedH s.vm) (hx : p.tables.exec = Jvm.exec) (hb : c.code = cc) {nL : Nat} (hml : c.maxLocals = nL) (hsize : ls.size = nL) {own : String} (hown : s.vm.findClass own = some m.cls) {idx : Nat} {y : MethodName} {b : ByteArray} {maxL : Nat} {ret : Option FieldType} {hh : List (Nat × Nat × Nat × Nat)} {fr lo mc ms : Nat} {As : List Value} {B : Heap → Prop} {post : Heap → Option Value → Heap → Prop} {free : Addr → Prop} (hM : RMW t0 y b maxL ret hh fr lo mc ms As B post free) (hB : B H)
    (na : Nat) (hna : As.length = na)
    (hw : [Cond.methodLink own idx y, .codeWith y b maxL ret hh, .initialized y.cls, .static y].all (fun w => decide (w ∈ rf_W)) = true)
    (hd : y.cls ≠ "java/lang/invoke/MethodHandle" ∧ y.cls ≠ "java/lang/invoke/VarHandle" ∧ (parseMethodDescriptor y.desc).map (fun d => d.parameters.length) = some na) (hR : fr + 1 ≤ R.frames ∧ 8 + (maxL + 11) + lo ≤ R.locals) (hcat : (rest.map fun v => v.category).sum ≤ 8) (hf : cells + mc ≤ R.cells ∧ slots + ms ≤ R.slots) (hdg : decode cc pc = .ok (.invokestatic idx, 3)) {st : List Value} (hst : st = As.reverse ++ rest)
    (kk : ∀ (v : Option Value) (H1 : Heap) (L : List Loc), post H v H1 → (∀ x ∈ L, free x.base) → W p launch0 e R s m args below meth c H1 (locs ++ L) (cells + mc) (slots + ms) Q (F0 m (pc + 3) ls (v.toList ++ rest))) : W p launch0 e R s m args below meth c H locs cells slots Q (F0 m pc ls st) := by
  simp only [List.all_cons, List.all_nil, Bool.and_true, Bool.and_eq_true, decide_eq_true_eq] at hw
  obtain ⟨w1, w2, w3, w4⟩ := hw
  subst hst
  intro T hT X
  obtain ⟨mk, methM, cM, hnamed, hmethM, -, -, -, -, -, -, hsigM⟩ := Cond.codeWith_spec (rw_at hk hW w2 args)
  obtain ⟨kP, hkP, -⟩ := className_of_methodNamed hnamed
  have hlen : ∀ sig, parseMethodDescriptor y.desc = some sig → As.length = sig.parameters.length := fun sig h => by
    have h2 := hd.2.2
    rw [h] at h2
    exact hna.trans (Option.some.inj h2).symm
  obtain ⟨vm₁, X₁, st1⟩ := X.invokestatic hx hown (rw_at hk hW w1 args) hnamed hmethM (Cond.static_spec hnamed hmethM (rw_at hk hW w4 args)) hkP (Cond.initialized_spec (findClass_of_methodNamed hnamed) hkP (rw_at hk hW w3 args)) ⟨hd.1, hd.2.1⟩ (g := F0 m pc ls (As.reverse ++ rest)) rfl (argsL := As) (rest := rest) (hlen _ hsigM) rfl (by rw [hb]; exact hdg)
  have hK : Back launch0 R p e below s args y 3 8 (PreOf R mc ms (rP t0 As B)) (PostOf (rQ post) mc ms free) := va_backW (bytes := b) (maxL := maxL) (ret := ret) (hh := hh) hM rg_blind rfl rfl hR.1 hR.2 (fun w h a' U hU => by
    rw [List.mem_singleton.mp h]
    exact rw_up hk hW w2 a' U hU) List.mem_cons_self (fun a' U hU => rw_up hk hW w3 a' U hU)
  obtain ⟨v, ⟨U', l2, c2, s2⟩, X', ⟨g', mk', t, L, e1, e2, hq, h1, hL, h2, h3⟩, hsteps⟩ := hK m meth c ⟨T.setVm vm₁, locs, cells, slots⟩ { F0 m pc ls (As.reverse ++ rest) with stack := rest } (.invokestatic idx) mk As.toArray X₁ rfl (hsize.trans hml.symm) (by rw [hb]; exact hdg) (by show 2 * 0 + (rest.map fun v => v.category).sum ≤ 8; omega) (X₁.named hnamed) ⟨hf.1, hf.2, rfl, State.WarmedH.trans hW X₁.warmed, by show B (T.setVm vm₁).heap; rw [State.heap_setVm, hT]; exact hB⟩
  dsimp only [Pt.U, Pt.locs, Pt.cells, Pt.slots] at X' e1 e2 h1 h2 h3 hsteps
  subst h1; subst h2; subst h3
  obtain ⟨w, hw, hp⟩ := hq
  cases hw
  have hp2 : post H v U'.heap := by rw [e1, ← hT]; exact hp
  obtain ⟨t2, a1, b1⟩ := kk v U'.heap L hp2 hL U' rfl X'
  exact ⟨t2, st1 _ fun acts => by rw [doInvoke_state]; exact hsteps.trans a1, b1⟩
/-- a field of a nest mate is written -/
theorem rg_putN (hk : rK t0) (hW : t0.WarmedH s.vm) (hx : p.tables.exec = Jvm.exec) (hb : c.code = cc) {own host : String} (hown : s.vm.findClass own = some m.cls) {idx a n : Nat} (q : rf_Fd) (hq : q ∈ rf_FL) (hl : Cond.fieldLinkNest own idx q.1 q.2.1 q.2.2.1 host ∈ rf_W) (cl : String × Nat × List FieldType) (hcl : cl ∈ rf_CL) (hty : cl.2.2[q.2.2.2.1]? = some q.2.2.2.2.2.2) (hsz : n = cl.2.2.length)
    (hfin : q.2.2.2.2.2.1 = false) {vs : List (Nat × Value)} {v : Value} (hc : rc_at H a cl.2.1 n vs) (hn : narrow q.2.2.2.2.2.2 v = v) (hf : fits q.2.2.2.2.2.2 v = true) (hd : decode cc pc = .ok (.putfield idx, 3))
    (kk : ∀ H1 : Heap, H1.size = H.size → (∀ x, x ≠ a → H1[x]? = H[x]?) → rc_at H1 a cl.2.1 n [] → W p launch0 e R s m args below meth c H1 (locs ++ [⟨a, q.2.2.2.1⟩]) cells slots Q (F0 m (pc + 3) ls rest)) : W p launch0 e R s m args below meth c H locs cells slots Q (F0 m pc ls (v :: .ref a :: rest)) := by
  obtain ⟨k', i, f, hi, hst, hsl, hfl, hft⟩ := rg_fld hk hW hq
  obtain ⟨hfc, kC, hkC, hkind, htys⟩ := rg_cls hk hW hcl
  obtain ⟨cell, h1, h2, h3, h4, h5⟩ := hc
  have hlt : f.slot < cell.slots.size := by
    rw [hsl, h4, hsz]
    exact (List.getElem?_eq_some_iff.mp hty).1
  have hit : kC.instanceTypes[f.slot]? = some f.type := by
    rw [hsl, hft, ← Array.getElem?_toList, htys]; exact hty
  have hfs : s.fitsSlot cell.cls cell.vm f.slot v = true := by
    rw [h2, h3]
    exact fresh_fits (s := s) (U := s) (Vm.Alike.refl _) hkC hkind hit (by rw [hft]; exact hf)
  refine va_Wputf hx hb hown (rw_at hk hW hl _) hi hst (Or.inl (by rw [hfl]; exact hfin)) h1 (by rw [h3]; exact fun h => by cases h) hlt (by rw [hft]; exact hn) hfs rfl rfl hd ?_
  rw [hsl]
  have ha : a < H.size := (Array.getElem?_eq_some_iff.mp h1).1
  refine kk _ (by simp) (fun x hx => by simp [Array.getElem?_setIfInBounds, Ne.symm hx]) ⟨cell.setSlot q.2.2.2.1 v, by simp [Array.getElem?_setIfInBounds, ha], h2, h3, ?_, fun z hz => absurd hz List.not_mem_nil⟩
  show (cell.slots.setIfInBounds _ _).size = n
  rw [Array.size_setIfInBounds]; exact h4
end RF
set_option maxHeartbeats 1000000 in
set_option maxRecDepth 100000 in
theorem c_lofWin {t0 : State} (hk : rK t0) : RMW t0 my_lofWin mb_lofWin 5 (some .int) [(0, 11, 14, 19), (0, 11, 18, 21)] 4 170 0 0 [.ref 59, .int 0, .int 5, .ref 140] (fun H => rHB H ∧ rc_at H 140 10 2 []) (fun H v H1 => ∃ r : Int32, v = some (.int r) ∧ H1.size = H.size ∧ (∀ x, x ≠ 140 → H1[x]? = H[x]?) ∧ rc_at H1 140 10 2 []) (fun x => x = 140) := by
  refine rg_bodyW (by decide +kernel) (Nat.le_of_ble_eq_true rfl) (fun p e s m below meth c ls hx hb hml hr hlocks hown hname hW hB hl => ?_)
  have hl : lv_has ls 5 [(0, .ref 59), (1, .int 0), (2, .int 5), (3, .ref 140)] := hl
  obtain ⟨hR, hO⟩ := hB
  refine lv_aload_n hx hb md_lofWin_0 rfl (lv_at hl 3 rfl) ?_
  refine lv_aload_n hx hb md_lofWin_1 rfl (lv_at hl 0 rfl) ?_
  refine lv_iload_n hx hb md_lofWin_2 rfl (lv_at hl 1 rfl) ?_
  refine lv_iload_n hx hb md_lofWin_3 rfl (lv_at hl 2 rfl) ?_
  refine rg_cv hk hW hx hb hml hl.1 (own := "TimeStoreLaw") hown (rest := [.ref 140]) (c_cofWin hk) qc_TimeStore.2.2 (by decide +kernel) (rHB.at hR 0 rfl) (hR) 2 rfl (by decide +kernel) ⟨by decide +kernel, by decide +kernel, by decide +kernel⟩ ⟨Nat.le_of_ble_eq_true rfl, Nat.le_of_ble_eq_true rfl⟩ (Nat.le_of_ble_eq_true rfl) ⟨Nat.le_of_ble_eq_true rfl, Nat.le_of_ble_eq_true rfl⟩ md_lofWin_4 rfl (fun v H1 L hp hL => ?_)
  obtain ⟨rfl, rfl⟩ := hp
  obtain rfl : L = [] := rg_nil hL
  refine W.eq (g2 := F0 m 7 ls [.int (-9), .ref 140]) rfl ?_
  refine lv_i2l (v := ((-9) : Int32).toInt64) hx hb md_lofWin_7 rfl ?_
  refine lv_topl (fun xv1 exv1 => ?_)
  refine rg_putN hk hW hx hb (own := "TimeStoreLaw") (host := "TimeStoreLaw") hown qf_TimeStoreLawOut_n (by decide +kernel) (by decide +kernel) qc_TimeStoreLawOut (by decide +kernel) rfl rfl rfl hO rfl rfl md_lofWin_8 (fun H1 z1 k1 n1 => ?_)
  refine lv_goto (tgt := 22) hx hb md_lofWin_11 (by decide) ?_
  refine lv_iconst (v := (0)) hx hb md_lofWin_22 (by decide) ?_
  exact W.iret (v := 0) hx hb hr (fun t ht _ => rg_q (by rw [ht]; exact ⟨0, rfl, z1, k1, n1⟩)) (rg_lap (F := fun x : Nat => x = 140) (by simp) (rg_lone (F := fun x : Nat => x = 140) rfl)) md_lofWin_23
end
section
/-! THE LAW over the script's 400 calls -/
/-- the script's cell -/
def rSc (H : Heap) : Prop := ∃ c : Cell, H[0]? = some c ∧ c.cls = 49 ∧ c.vm = .none ∧ c.slots = rf_scr 400
theorem rSc.kept {H H1 : Heap} (h : rSc H) (e : H1[0]? = H[0]?) : rSc H1 := by
  obtain ⟨c, h1, h2⟩ := h
  exact ⟨c, e.trans h1, h2⟩
theorem rf_flat : ∀ (n k j : Nat), k < n → j < 6 → ((List.replicate n ([41, 0, 5, 0, 0, 0] : List Int32)).flatten)[6 * k + j]? = ([41, 0, 5, 0, 0, 0] : List Int32)[j]?
  | 0, k, j, h, _ => absurd h (Nat.not_lt_zero k)
  | n + 1, 0, j, _, hj => by
    rw [List.replicate_succ, List.flatten_cons, List.getElem?_append_left (by simp only [List.length_cons, List.length_nil]; omega)]
    simp
  | n + 1, k + 1, j, h, hj => by
    rw [List.replicate_succ, List.flatten_cons, List.getElem?_append_right (by simp only [List.length_cons, List.length_nil]; omega), ← rf_flat n k j (by omega) hj]
    congr 1
    simp only [List.length_cons, List.length_nil]
    omega
theorem rf_scr_at (k j : Nat) (hk : k < 400) (hj : j < 6) : (rf_scr 400)[12 + 6 * k + j]? = (([41, 0, 5, 0, 0, 0] : List Int32)[j]?).map Value.int := by
  have h1 : (rf_scr 400)[12 + 6 * k + j]? = ((rf_ints 400).map Value.int)[12 + 6 * k + j]? := by simp only [rf_scr, List.getElem?_toArray]
  rw [h1, List.getElem?_map]
  refine congrArg (Option.map Value.int) ?_
  unfold rf_ints
  rw [List.getElem?_append_right (by simp only [List.length_cons, List.length_nil]; omega), ← rf_flat 400 k j hk hj]
  have h2 : ∀ (l : List Int32) (x y : Nat), x = y → l[x]? = l[y]? := fun l x y h => by rw [h]
  exact h2 _ _ _ (by simp only [List.length_cons, List.length_nil]; omega)
theorem rf_scr_size : (rf_scr 400).size = 2412 := by decide +kernel
theorem rSc.at {H : Heap} (h : rSc H) {k : Nat} (hk : k < 400) : rc_at H 0 49 2412 [(12 + 6 * k, .int 41), (12 + 6 * k + 1, .int 0), (12 + 6 * k + 2, .int 5)] := by
  obtain ⟨c, h1, h2, h3, h4⟩ := h
  refine ⟨c, h1, h2, h3, by rw [h4]; exact rf_scr_size, fun q hq => ?_⟩
  rw [h4]
  simp only [List.mem_cons, List.not_mem_nil, or_false] at hq
  rcases hq with rfl | rfl | rfl
  · exact rf_scr_at k 0 hk (by decide)
  · exact rf_scr_at k 1 hk (by decide)
  · exact rf_scr_at k 2 hk (by decide)
abbrev rR9 : Room := rRm 8 300 800400 2801200
set_option maxHeartbeats 1000000 in
set_option maxRecDepth 100000 in
/-- the law's loop over 400 calls: each leaves 2001 new cells -/
theorem l_law {t0 : State} (hk : rK t0) {p : Program} {e : Env} {s : State} {m : MethodId} {args : Array Value} {below : List Frame} {meth : Method} {c : Code} {Q : State → Prop} (hx : p.tables.exec = Jvm.exec) (hb : c.code = mb_law) (hml : c.maxLocals = 7) (hown : s.vm.findClass "TimeStoreLaw" = some m.cls) (hW : t0.WarmedH s.vm)
    (hend : ∀ (H : Heap) (ls : Array Slot) (locs : List Loc) (C S : Nat), H.size = 148 + 2001 * 400 → W p launch0 e rR9 s m args below meth c H locs C S Q (F0 m 27 ls [])) :
    ∀ (d k : Nat), d + k = 400 → ∀ (H : Heap) (ls : Array Slot) (locs : List Loc) (C S : Nat), C = 2001 * k → S = 7003 * k → H.size = 148 + 2001 * k → rHB H → rc_at H 140 10 2 [] → rSc H →
      lv_has ls 7 [(4, .int (nI (12 + 6 * k))), (0, .ref 0), (1, .ref 59), (2, .ref 126), (3, .ref 140)] → W p launch0 e rR9 s m args below meth c H locs C S Q (F0 m 27 ls []) := by
  intro d
  induction d with
  | zero =>
    intro k hdk H ls locs C S hC hS hz hR hO hSc hl
    obtain rfl : k = 400 := by omega
    exact hend H ls locs C S hz
  | succ d ih =>
    intro k hdk H ls locs C S hC hS hz hR hO hSc hl
    have hA := hSc.at (show k < 400 by omega)
    have e1 : nI (12 + 6 * k) + (1) = nI (12 + 6 * k + 1) := nI_1 _
    have e2 : nI (12 + 6 * k) + (2) = nI (12 + 6 * k + 2) := nI_add _ 2
    have e6 : nI (12 + 6 * k) + Int32.ofInt (6) = nI (12 + 6 * (k + 1)) := by
      rw [show 12 + 6 * (k + 1) = 12 + 6 * k + 6 by omega]
      exact nI_add _ 6
    have q0 : ¬ (nI (12 + 6 * k) < 0 ∨ 2412 ≤ (nI (12 + 6 * k)).toNatClampNeg) := nI_in (by omega) (by omega)
    have q1 : ¬ (nI (12 + 6 * k) + (1) < 0 ∨ 2412 ≤ (nI (12 + 6 * k) + (1)).toNatClampNeg) := by rw [e1]; exact nI_in (by omega) (by omega)
    have q2 : ¬ (nI (12 + 6 * k) + (2) < 0 ∨ 2412 ≤ (nI (12 + 6 * k) + (2)).toNatClampNeg) := by rw [e2]; exact nI_in (by omega) (by omega)
    have c0 : (nI (12 + 6 * k)).toNatClampNeg = 12 + 6 * k := nI_clamp (by omega)
    have c1 : (nI (12 + 6 * k) + (1)).toNatClampNeg = 12 + 6 * k + 1 := by rw [e1]; exact nI_clamp (by omega)
    have c2 : (nI (12 + 6 * k) + (2)).toNatClampNeg = 12 + 6 * k + 2 := by rw [e2]; exact nI_clamp (by omega)
    have hle : ¬ (2412 - (6) : Int32) < nI (12 + 6 * k) := nI_nlt (a := 2406) (b := 12 + 6 * k) (by omega) (by omega)
    refine lv_iload hx hb md_law_27 (lv_at hl 0 rfl) ?_
    refine lv_aload_n hx hb md_law_29 rfl (lv_at hl 1 rfl) ?_
    refine rg_alen hk hW hx hb (k := 49) .int (by decide +kernel) (v := 2412) hA rfl md_law_30 ?_
    refine lv_bipush (v := (6)) hx hb md_law_31 (by decide) ?_
    refine lv_isub hx hb md_law_33 ?_
    refine lv_icmp_gt (tgt := 3075) hx hb md_law_34 (by decide) (fun h => absurd h (hle)) (fun _ => ?_)
    refine lv_aload_n hx hb md_law_37 rfl (lv_at hl 1 rfl) ?_
    refine lv_iload hx hb md_law_38 (lv_at hl 0 rfl) ?_
    refine rg_iald hk hW hx hb (k := 49) (by decide +kernel) (v := .int 41) hA 0 (by rw [c0]; rfl) q0 md_law_40 ?_
    refine lv_bipush (v := (63)) hx hb md_law_41 (by decide) ?_
    refine lv_iand hx hb md_law_43 ?_
    refine lv_tableIn (off := 2206) (tgt := 2250) hx hb md_law_44 (by decide) (by decide) (by decide) (by decide) ?_
    refine lv_aload_n hx hb md_law_2250 rfl (lv_at hl 2 rfl) ?_
    refine lv_aload_n hx hb md_law_2251 rfl (lv_at hl 1 rfl) ?_
    refine lv_iload hx hb md_law_2252 (lv_at hl 0 rfl) ?_
    refine lv_iconst (v := (1)) hx hb md_law_2254 (by decide) ?_
    refine lv_iadd hx hb md_law_2255 ?_
    refine rg_iald hk hW hx hb (k := 49) (by decide +kernel) (v := .int 0) hA 1 (by rw [c1]; rfl) q1 md_law_2256 ?_
    refine lv_aload_n hx hb md_law_2257 rfl (lv_at hl 1 rfl) ?_
    refine lv_iload hx hb md_law_2258 (lv_at hl 0 rfl) ?_
    refine lv_iconst (v := (2)) hx hb md_law_2260 (by decide) ?_
    refine lv_iadd hx hb md_law_2261 ?_
    refine rg_iald hk hW hx hb (k := 49) (by decide +kernel) (v := .int 5) hA 2 (by rw [c2]; rfl) q2 md_law_2262 ?_
    refine lv_aload_n hx hb md_law_2263 rfl (lv_at hl 4 rfl) ?_
    refine rg_csw hk hW hx hb hml hl.1 (own := "TimeStoreLaw") hown (rest := []) (c_lofWin hk) ⟨hR, hO⟩ 4 rfl (by decide +kernel) ⟨by decide +kernel, by decide +kernel, by decide +kernel⟩ ⟨Nat.le_of_ble_eq_true rfl, Nat.le_of_ble_eq_true rfl⟩ (Nat.le_of_ble_eq_true rfl) ⟨by show C + 0 ≤ 800400; omega, by show S + 0 ≤ 2801200; omega⟩ md_law_2264 rfl (fun v H1 L1 hp hL1 => ?_)
    obtain ⟨r1, rfl, z1, k1, o1⟩ := hp
    refine W.eq (g2 := F0 m 2267 ls [.int r1]) rfl ?_
    have hR1 : rHB H1 := hR.kept (by omega) (fun q _ hne => k1 q hne)
    have hA1 := hA.kept (k1 0 (by decide))
    refine lv_istore (lv' := [(5, .int r1), (4, .int (nI (12 + 6 * k))), (0, .ref 0), (1, .ref 59), (2, .ref 126), (3, .ref 140)]) hx hb md_law_2267 hl (by decide) rfl (fun ls hl => ?_)
    refine lv_aload_n hx hb md_law_2269 rfl (lv_at hl 4 rfl) ?_
    refine lv_aload_n hx hb md_law_2270 rfl (lv_at hl 2 rfl) ?_
    refine lv_iload hx hb md_law_2271 (lv_at hl 1 rfl) ?_
    refine lv_iconst (v := (1)) hx hb md_law_2273 (by decide) ?_
    refine lv_iadd hx hb md_law_2274 ?_
    refine rg_iald hk hW hx hb (k := 49) (by decide +kernel) (v := .int 0) hA1 1 (by rw [c1]; rfl) q1 md_law_2275 ?_
    refine lv_aload_n hx hb md_law_2276 rfl (lv_at hl 2 rfl) ?_
    refine lv_iload hx hb md_law_2277 (lv_at hl 1 rfl) ?_
    refine lv_iconst (v := (2)) hx hb md_law_2279 (by decide) ?_
    refine lv_iadd hx hb md_law_2280 ?_
    refine rg_iald hk hW hx hb (k := 49) (by decide +kernel) (v := .int 5) hA1 2 (by rw [c2]; rfl) q2 md_law_2281 ?_
    refine rg_cv hk hW hx hb hml hl.1 (own := "TimeStoreLaw") hown (rest := []) (c_mofWin hk H1.size) qc_TimeStoreModel.2.2 (by decide +kernel) (rHB.at hR1 6 rfl) (⟨rfl, hR1⟩) 2 rfl (by decide +kernel) ⟨by decide +kernel, by decide +kernel, by decide +kernel⟩ ⟨Nat.le_of_ble_eq_true rfl, Nat.le_of_ble_eq_true rfl⟩ (Nat.le_of_ble_eq_true rfl) ⟨by show C + 0 + 2001 ≤ 800400; omega, by show S + 0 + 7003 ≤ 2801200; omega⟩ md_law_2282 rfl (fun v H2 L2 hp hL2 => ?_)
    obtain ⟨r2, rfl, z2, k2⟩ := hp
    refine W.eq (g2 := F0 m 2285 ls [.int r2]) rfl ?_
    refine lv_istore (lv' := [(6, .int r2), (5, .int r1), (4, .int (nI (12 + 6 * k))), (0, .ref 0), (1, .ref 59), (2, .ref 126), (3, .ref 140)]) hx hb md_law_2285 hl (by decide) rfl (fun ls hl => ?_)
    refine lv_goto (tgt := 3069) hx hb md_law_2287 (by decide) ?_
    refine lv_iinc (v := ((nI (12 + 6 * k)) + Int32.ofInt (6))) (lv' := [(4, .int ((nI (12 + 6 * k)) + Int32.ofInt (6))), (6, .int r2), (5, .int r1), (0, .ref 0), (1, .ref 59), (2, .ref 126), (3, .ref 140)]) hx hb md_law_3069 hl (k := 2) rfl rfl (by decide) rfl (fun ls hl => ?_)
    refine lv_goto (tgt := 27) hx hb md_law_3072 (by decide) ?_
    rw [e6] at hl
    have h148 := hR1.1
    exact ih (k + 1) (by omega) H2 ls _ _ _ (by omega) (by omega) (by omega) (hR1.kept (by omega) (fun q h _ => k2 q h)) (o1.kept (k2 140 (by omega))) ((hSc.kept (k1 0 (by decide))).kept (k2 0 (by omega))) (rv_sub hl [0, 3, 4, 5, 6] rfl)
end
section
/-! THE RUN to the loop's third call, and what is checked there -/
def rf_law? (s : State) : Option (Array Slot) := match s.frames with
  | [.java ⟨⟨0, 0⟩, 27, ls, [], none, [], 0⟩, b] => match rf_bot b with
    | true => some ls
    | false => none
  | _ => none
theorem rf_law?_eq {s : State} {ls : Array Slot} (h : rf_law? s = some ls) : s.frames = .java (F0 ⟨0, 0⟩ 27 ls []) :: Lib.HandBits.below0 := by
  unfold rf_law? at h
  split at h
  · rename_i ls' b hf
    split at h
    · rename_i hb
      cases h
      rw [hf, ← rf_bot_eq hb]
    · cases h
  · cases h
def rf_stop (s : State) : Bool := match rf_law? s with
  | some ls => match (ls[4]? : Option Slot) with
    | some (.val (.int x)) => x == 12
    | _ => false
  | none => false
/-- as rf_fS, the heap's cells only where 'b' says so (a state's heap is read as it stands, and brought to its constructors now and then) -/
def rf_gS {β : Type} (b : Bool) (s : State) (k : State → β) : β := match s with
  | ⟨h, vx, ⟨[t]⟩, cur, w, d, now, su, st⟩ => match b with
    | true => rf_fA rf_fC h fun h => rf_fM vx fun vx => rf_fT t fun t => rf_fN cur fun cur => rf_fW w fun w => rf_fD d fun d => rf_fN now fun now => rf_fN su fun su => rf_fQ st fun st => k ⟨h, vx, ⟨[t]⟩, cur, w, d, now, su, st⟩
    | false => rf_fM vx fun vx => rf_fT t fun t => rf_fN cur fun cur => rf_fW w fun w => rf_fD d fun d => rf_fN now fun now => rf_fN su fun su => rf_fQ st fun st => k ⟨h, vx, ⟨[t]⟩, cur, w, d, now, su, st⟩
  | s => k s
theorem rf_gS_eq {β : Type} (b : Bool) (s : State) (k : State → β) : rf_gS b s k = k s := by
  unfold rf_gS
  split
  · cases b
    · simp only [rf_fM_eq, rf_fT_eq, rf_fN_eq, rf_fW_eq, rf_fD_eq, rf_fQ_eq]
    · simp only [rf_fA_eq (f := rf_fC) (fun a k => rf_fC_eq a k), rf_fM_eq, rf_fT_eq, rf_fN_eq, rf_fW_eq, rf_fD_eq, rf_fQ_eq]
  · rfl
def rf_un (tb : Tables) (e : Env) : Nat → State → (State → Bool) → Bool
  | 0, _, _ => false
  | n + 1, s, K => match rf_stop s with
    | true => K s
    | false => match rf_ok s with
      | true => match rf_arr e s with
        | some s => rf_gS (Nat.beq (n % 32) 0) s fun s => rf_un tb e n s K
        | none => rf_gS (Nat.beq (n % 32) 0) (stepThread tb e s).1 fun s => rf_un tb e n s K
      | false => false
theorem rf_un_eq {p : Program} {e : Env} {K : State → Bool} : ∀ (n : Nat) (s : State), rf_un p.tables e n s K = true → ∃ t, Steps p.tables e Lib.HandBits.below0 s t ∧ K t = true := by
  intro n
  induction n with
  | zero => intro s h; cases h
  | succ n ih =>
    intro s h
    unfold rf_un at h
    split at h
    · exact ⟨s, Steps.refl s, h⟩
    · split at h
      · rename_i hq
        split at h
        · rename_i s' hs
          rw [rf_gS_eq] at h
          obtain ⟨t, g1, g2⟩ := ih _ h
          exact ⟨t, (rf_arr_eq hq hs).trans g1, g2⟩
        · rw [rf_gS_eq] at h
          obtain ⟨t, g1, g2⟩ := ih _ h
          obtain ⟨h1, h2, h3, h4⟩ := rf_ok_eq hq
          have st : Steps p.tables e Lib.HandBits.below0 s (stepThread p.tables e s).1 := by
            refine ⟨1, by simp only [stepsAlone, h2, h3, h4], fun k hk => ?_⟩
            have : k = 0 := by omega
            subst this; exact h1
          exact ⟨t, st.trans g1, g2⟩
      · cases h
def rf_ut (tb : Tables) (e : Env) : Nat → State → Option State
  | 0, _ => none
  | n + 1, s => match rf_stop s with
    | true => some s
    | false => match rf_ok s with
      | true => match rf_arr e s with
        | some s => rf_ut tb e n s
        | none => rf_ut tb e n (stepThread tb e s).1
      | false => none
theorem rf_un_ut {tb : Tables} {e : Env} {K : State → Bool} : ∀ (n : Nat) (s : State), rf_un tb e n s K = (match rf_ut tb e n s with | some t => K t | none => false) := by
  intro n
  induction n with
  | zero => intro s; rfl
  | succ n ih =>
    intro s
    unfold rf_un rf_ut
    cases rf_stop s
    · cases rf_ok s
      · rfl
      · cases h : rf_arr e s
        · simp only [rf_gS_eq]; exact ih _
        · simp only [rf_gS_eq]; exact ih _
    · rfl
theorem rf_un_and {tb : Tables} {e : Env} {K1 K2 : State → Bool} {n : Nat} {s : State} (h1 : rf_un tb e n s K1 = true) (h2 : rf_un tb e n s K2 = true) : rf_un tb e n s (fun t => K1 t && K2 t) = true := by
  rw [rf_un_ut] at *
  cases h : rf_ut tb e n s with
  | none => simp only [h] at h1; cases h1
  | some t => simp only [h] at h1 h2 ⊢; rw [h1, h2]; rfl
/-- the law's local variables -/
def rb_loc (ls : Array Slot) : Bool := decide (ls.size = 7) && (ls.toList.all (fun z => match z with
  | .val v => v.category == 1
  | .unset => true
  | .second => false) && [(4, Value.int 12), (0, .ref 0), (1, .ref 59), (2, .ref 126), (3, .ref 140)].all (fun q => match (ls[q.1]? : Option Slot) with
  | some (.val v) => decide (v = q.2)
  | _ => false))
theorem rb_loc_eq {ls : Array Slot} (h : rb_loc ls = true) : lv_has ls 7 [(4, .int (nI (12 + 6 * 0))), (0, .ref 0), (1, .ref 59), (2, .ref 126), (3, .ref 140)] := by
  unfold rb_loc at h
  simp only [Bool.and_eq_true, decide_eq_true_eq] at h
  obtain ⟨h1, h2, h3⟩ := h
  have hz : ∀ (i : Nat) (z : Slot), ls[i]? = some z → (match z with | .val v => v.category == 1 | .unset => true | .second => false) = true := fun i z hi =>
    List.all_eq_true.mp h2 z (List.mem_of_getElem? (by rw [Array.getElem?_toList]; exact hi))
  refine ⟨h1, ⟨fun i v hi hc => ?_, fun i hi => ?_⟩, fun q hq => ?_⟩
  · have := hz i _ hi
    simp only [hc] at this
    cases this
  · have := hz i _ hi
    cases this
  · have h4 := List.all_eq_true.mp h3 q hq
    split at h4
    · rename_i v hv
      rw [hv, of_decide_eq_true h4]
    · cases h4
/-- cells -/
def rb_none (c : Cell) : Bool := match c.vm with
  | .none => true
  | _ => false
theorem rb_none_eq {c : Cell} (h : rb_none c = true) : c.vm = .none := by
  unfold rb_none at h
  split at h
  · assumption
  · cases h
def rb_at (H : Heap) (z : Nat × Nat × Nat × List (Nat × Value)) : Bool := match H[z.1]? with
  | some c => (c.cls == z.2.1) && (rb_none c && ((c.slots.size == z.2.2.1) && z.2.2.2.all (fun q => decide (c.slots[q.1]? = some q.2))))
  | none => false
theorem rb_at_eq {H : Heap} {z : Nat × Nat × Nat × List (Nat × Value)} (h : rb_at H z = true) : rc_at H z.1 z.2.1 z.2.2.1 z.2.2.2 := by
  unfold rb_at at h
  split at h
  · rename_i c hc
    simp only [Bool.and_eq_true, beq_iff_eq] at h
    exact ⟨c, hc, h.1, rb_none_eq h.2.1, h.2.2.1, fun q hq => of_decide_eq_true (List.all_eq_true.mp h.2.2.2 q hq)⟩
  · cases h
def rb_vals : List Value → List Value → Bool
  | [], [] => true
  | a :: l, b :: r => match decide (a = b) with
    | true => rb_vals l r
    | false => false
  | _, _ => false
theorem rb_vals_eq : ∀ l r : List Value, rb_vals l r = true → l = r
  | [], [], _ => rfl
  | [], b :: r, h => by simp [rb_vals] at h
  | a :: l, [], h => by simp [rb_vals] at h
  | a :: l, b :: r, h => by
    unfold rb_vals at h
    split at h
    · rename_i hq
      rw [of_decide_eq_true hq, rb_vals_eq l r h]
    · cases h
def rb_scr (H : Heap) : Bool := match H[0]? with
  | some c => (c.cls == 49) && (rb_none c && rb_vals c.slots.toList ((rf_ints 400).map Value.int))
  | none => false
theorem rb_scr_eq {H : Heap} (h : rb_scr H = true) : rSc H := by
  unfold rb_scr at h
  split at h
  · rename_i c hc
    simp only [Bool.and_eq_true, beq_iff_eq] at h
    refine ⟨c, hc, h.1, rb_none_eq h.2.1, ?_⟩
    have h3 := rb_vals_eq _ _ h.2.2
    unfold rf_scr
    rw [← h3]
  · cases h
def rb_six (H : Heap) : Bool := match H[6]? with
  | some c => (match c.vm with | .statics k => k == 47 | _ => false) && decide (c.slots[3]? = some (.ref 9))
  | none => false
theorem rb_six_eq {H : Heap} (h : rb_six H = true) : ∃ c : Cell, H[6]? = some c ∧ c.vm = .statics 47 ∧ c.slots[3]? = some (.ref 9) := by
  unfold rb_six at h
  split at h
  · rename_i c hc
    simp only [Bool.and_eq_true, decide_eq_true_eq] at h
    refine ⟨c, hc, ?_, h.2⟩
    have h1 := h.1
    split at h1
    · rename_i k hk
      rw [hk, beq_iff_eq.mp h1]
    · cases h1
  · cases h
def rb_heap (H : Heap) : Bool := decide (H.size = 148) && (rf_HL.all (rb_at H) && (rb_six H && (rb_at H (140, 10, 2, []) && rb_scr H)))
/-- the tables -/
def rb_tab (T : State) : Bool := (rf_W.take 60).all (fun w => rf_good w && w.before #[] T) && (rf_FL.all (rb_fld T) && (rf_CL.all (rb_cls T) && (rf_AL.all (rb_arr T) && ((rb_sta T && decide (T.vm.findClass "[I" = some 49)) && rf_X.all (fun w => w.onTables && w.before #[] T)))))
def rf_K2 (T : State) : Bool := (rf_W.drop 60).all (fun w => rf_good w && w.before #[] T)
theorem rb_tab_eq {T : State} (h : rb_tab T = true) (h2 : rf_K2 T = true) : rK T := by
  unfold rb_tab at h
  unfold rf_K2 at h2
  simp only [Bool.and_eq_true, List.all_eq_true, decide_eq_true_eq] at h h2
  refine ⟨fun w hw => ?_, h.2.1, h.2.2.1, h.2.2.2.1, h.2.2.2.2.1, h.2.2.2.2.2⟩
  rw [← List.take_append_drop 60 rf_W] at hw
  rcases List.mem_append.mp hw with hw | hw
  · exact h.1 w hw
  · exact h2 w hw
/-- a start in the law's stead: its tables and cells are those behind the run -/
def rf_s1 (T : State) : State := T.setFrames (.invoking ⟨0, 0⟩ start1.args0 :: Lib.HandBits.below0)
def rb_law (T : State) : Bool := decide (T.vm.findClass "TimeStoreLaw" = some 0) && (((T.vm.classes[0]?).any fun q => plainName q.name) && (rf_s1 T).hasRoom start1.e0.platform rR9)
def rf_K1 (T : State) : Bool := match rf_law? T with
  | some ls => rb_loc ls && (rf_ok T && (rb_heap T.heap && (rb_law T && rb_tab T)))
  | none => false
theorem rf_stays (tb : Tables) (e : Env) {m : MethodId} {meth : Method} : ∀ (n : Nat) {s : State}, s.vm.method? m = some meth → (stepsAlone tb e n s).vm.method? m = some meth
  | 0, _, h => h
  | n + 1, s, h => by
    unfold stepsAlone
    split
    · exact rf_stays tb e n (stepThread_method? tb e h)
    · exact h
/-- the law's own method stays what it was -/
theorem rf_meth {T : State} (hS : Steps start1.p0.tables start1.e0 Lib.HandBits.below0 (rf_S 400) T) : ∃ meth c, T.vm.method? ⟨0, 0⟩ = some meth ∧ meth.code = some c ∧ c.code = code ∧ c.maxLocals = 7 := by
  obtain ⟨n, rfl, -⟩ := hS
  have hn : start1.about.methodNamed? x = some ⟨0, 0⟩ := by decide +kernel
  obtain ⟨meth, c, h1, h2, h3, h4, -, -, -, -⟩ := Cond.code_spec hn start1.word_code
  exact ⟨meth, c, rf_stays _ _ n h1, h2, h3, h4⟩
theorem rf_stand {T : State} {ls : Array Slot} (hS : Steps start1.p0.tables start1.e0 Lib.HandBits.below0 (rf_S 400) T) (h : rf_law? T = some ls) (hok : rf_ok T = true) (hr : rb_law T = true) : ∃ meth c, c.code = code ∧ c.maxLocals = 7 ∧ T.vm.findClass "TimeStoreLaw" = some 0 ∧ Stand start1.p0 launch0 start1.e0 rR9 (rf_s1 T) ⟨0, 0⟩ start1.args0 Lib.HandBits.below0 meth c T [] 0 0 := by
  unfold rb_law at hr
  simp only [Bool.and_eq_true, decide_eq_true_eq] at hr
  obtain ⟨r2, r3, r4⟩ := hr
  obtain ⟨meth, c, h1, h2, h3, h4⟩ := rf_meth hS
  obtain ⟨h5, h6, h7, h8⟩ := rf_ok_eq hok
  have hf := rf_law?_eq h
  obtain ⟨t, ht, -⟩ := State.frames_cons hf
  have hcur : T.cur < T.threads.size := State.cur_lt_of_frames hf
  have hcd : T.code? ⟨0, 0⟩ = some c := by rw [State.code?_eq, h1]; exact h2
  have htop : T.topJava?.isSome := by simp [State.topJava?, hf]
  refine ⟨meth, c, h3, h4, r2, ⟨launch0.admits_env _ _ _, fairChoices_fair.cas, fairChoices_fair.clock, State.frames_setFrames _ hcur, r4, rfl, h1, h2, ⟨htop, ⟨[], by rw [hf]; rfl⟩, h6, h7, h8, hcd, fun k hk => plain_of_name (by rw [hk] at r3; simpa using r3)⟩, by rw [hf]; rfl, State.WarmedH.refl (rf_s1 T), by unfold rf_s1; rw [State.stackLimits_setFrames], by unfold rf_s1; rw [State.stackBytes_setFrames], ?_⟩⟩
  obtain ⟨t1, ht1, -⟩ := State.frames_cons (State.frames_setFrames (s := T) (.invoking ⟨0, 0⟩ start1.args0 :: Lib.HandBits.below0) hcur)
  have hs := (State.sameButNew.refl (rf_s1 T) ht1).setFrames T.frames (by show (T.setFrames _).cur < (T.setFrames _).threads.size; exact State.cur_lt_of_frames (State.frames_setFrames (s := T) (.invoking ⟨0, 0⟩ start1.args0 :: Lib.HandBits.below0) hcur))
  have e1 : (rf_s1 T).setFrames T.frames = T := by unfold rf_s1; rw [State.setFrames_setFrames, State.setFrames_self ht]
  rw [e1] at hs
  exact hs
theorem rf_walk {T : State} (hS : Steps start1.p0.tables start1.e0 Lib.HandBits.below0 (rf_S 400) T) (h : (rf_K1 T && rf_K2 T) = true) : ∃ t, Steps start1.p0.tables start1.e0 Lib.HandBits.below0 T t ∧ t.heap.size = 800548 := by
  rw [Bool.and_eq_true] at h
  obtain ⟨h, hK2⟩ := h
  unfold rf_K1 at h
  split at h
  · rename_i ls hl
    simp only [Bool.and_eq_true] at h
    obtain ⟨h1, h2, h3, h4, h5⟩ := h
    unfold rb_heap at h3
    simp only [Bool.and_eq_true, decide_eq_true_eq] at h3
    obtain ⟨g1, g2, g3, g4, g5⟩ := h3
    obtain ⟨meth, c, c1, c2, c3, X⟩ := rf_stand hS hl h2 h4
    have hR : rHB T.heap := ⟨by omega, fun z hz => rb_at_eq (List.all_eq_true.mp g2 z hz), rb_six_eq g3⟩
    have key := l_law (t0 := T) (rb_tab_eq h5 hK2) (p := start1.p0) (e := start1.e0) (s := rf_s1 T) (m := ⟨0, 0⟩) (args := start1.args0) (below := Lib.HandBits.below0) (meth := meth) (c := c) (Q := fun t => t.heap.size = 800548) rfl c1 c2 c3 (State.WarmedH.refl T)
      (fun H ls locs C S hz T' hT X' => ⟨_, Steps.refl _, by show T'.heap.size = 800548; rw [hT]; exact hz⟩) 400 0 rfl T.heap ls [] 0 0 rfl rfl g1 hR (rb_at_eq g4) (rb_scr_eq g5) (rb_loc_eq h1)
    obtain ⟨t, a, b⟩ := key T rfl X
    have htop : T.topJava? = some (F0 ⟨0, 0⟩ 27 ls []) := by simp [State.topJava?, rf_law?_eq hl]
    rw [State.setTop_self htop] at a
    exact ⟨t, a, b⟩
  · cases h
end
section
/-! THE START with the script of 400 calls -/
theorem rf_S_vm : (rf_S 400).vm = start1.about.vm := rfl
theorem rf_word {c : Cond} (hc : c.onTables = true) (h : c.before start1.args0 start1.about = true) : c.before start1.args0 (rf_S 400) = true := by
  have h1 := Cond.onTables_vm (A := start1.args0) (A' := start1.args0) (U := rf_S 400) (U' := start1.about) start1.about.vm c hc
  have e1 : (rf_S 400).setVm start1.about.vm = rf_S 400 := rfl
  have e2 : start1.about.setVm start1.about.vm = start1.about := rfl
  rw [e1, e2] at h1
  rw [h1]; exact h
theorem rf_words : ∀ c ∈ (Cond.code x code maxLocals ret :: tables_1), c.before start1.args0 (rf_S 400) = true := by
  have h : (Cond.code x code maxLocals ret :: tables_1).all (fun c => c.onTables || c.before start1.args0 (rf_S 400)) = true := by decide +kernel
  intro c hc
  have h1 := List.all_eq_true.mp h c hc
  rw [Bool.or_eq_true] at h1
  rcases h1 with h1 | h1
  · exact rf_word h1 (start1.words c hc)
  · exact h1
def rf_c0 (k : Nat) : Cell := { cls := 49, slots := rf_scr k, vm := .none }
theorem rf_S_heap : (rf_S 400).heap.toList = rf_c0 400 :: start1.about.heap.toList.tail := rfl
theorem rf_scr_int (i : Nat) (v : Value) (h : (rf_scr 400)[i]? = some v) : ∃ z : Int32, v = .int z := by
  have h1 : (rf_scr 400)[i]? = ((rf_ints 400).map Value.int)[i]? := by simp only [rf_scr, List.getElem?_toArray]
  rw [h1, List.getElem?_map] at h
  cases h2 : (rf_ints 400)[i]? with
  | none => rw [h2] at h; cases h
  | some z => rw [h2] at h; exact ⟨z, (Option.some.inj h).symm⟩
theorem rf_fits : heapFits (rf_S 400) = true := by
  have h0 : heapFits start1.about = true := start1.atStart.2.2.2.2.2.2.2.2.1
  unfold heapFits at h0 ⊢
  rw [← Array.all_toList] at h0 ⊢
  rw [rf_S_heap, List.all_cons, Bool.and_eq_true]
  constructor
  · unfold cellFits
    refine List.all_eq_true.mpr (fun i _ => ?_)
    split
    · rename_i v hv
      obtain ⟨z, rfl⟩ := rf_scr_int i v hv
      rfl
    · rfl
  · refine List.all_eq_true.mpr (fun c hc => ?_)
    exact List.all_eq_true.mp h0 c (List.mem_of_mem_tail hc)
theorem rf_all {args : Array Value} {first s : State} {o : Option Outcome} {idx : List Nat} {t : Term} {c : Cond} {a : Nat} {cell : Cell} (h1 : t.eval args first o idx s = some (.ref a)) (h2 : s.arrayAt? a = some cell) (h3 : ∀ i, i < cell.slots.size → c.value args first o s (i :: idx) = some true) : (Cond.all t c).value args first o s idx = some true := by
  rw [Cond.value]
  simp only [h1, h2]
  generalize cell.slots.size = n at h3 ⊢
  induction n with
  | zero => rfl
  | succ n ih =>
    rw [List.range_succ, List.foldl_append, ih (fun i hi => h3 i (by omega))]
    exact h3 n (by omega)
theorem rf_isInt {args : Array Value} {first s : State} {o : Option Outcome} {idx : List Nat} {t : Term} {z : Int32} (h1 : t.eval args first o idx s = some (.int z)) : (Cond.isInt t).value args first o s idx = some true := by
  rw [Cond.value, h1]
  rfl
theorem rf_elem {args : Array Value} {first s : State} {o : Option Outcome} {idx : List Nat} {t i : Term} {a : Nat} {j : Int32} {cell : Cell} (h1 : t.eval args first o idx s = some (.ref a)) (h2 : i.eval args first o idx s = some (.int j)) (h3 : s.arrayAt? a = some cell) : (Term.elem t i).eval args first o idx s = if j < 0 then none else cell.slots[j.toNatClampNeg]? := by
  rw [Term.eval, h1, h2]
  simp only [h3, Option.bind_eq_bind, Option.bind_some]
theorem rf_rest : rest_1_c.before start1.args0 (rf_S 400) = true := by
  unfold rest_1_c
  rw [Cond.before_and, Bool.and_eq_true]
  refine ⟨by decide +kernel, ?_⟩
  have hA : (rf_S 400).arrayAt? 0 = some (rf_c0 400) := rfl
  have h2 : (Cond.all (.arg 0) (.isInt (.elem (.arg 0) (.index 0)))).value start1.args0 (rf_S 400) none (rf_S 400) [] = some true := by
    refine rf_all (a := 0) rfl hA (fun i hi => ?_)
    have hi2 : i < (rf_scr 400).size := hi
    have hi3 : i < 2412 := by rw [rf_scr_size] at hi2; exact hi2
    obtain ⟨z, hz⟩ := rf_scr_int i _ (Array.getElem?_eq_getElem hi2)
    refine rf_isInt (z := z) ?_
    rw [rf_elem (a := 0) (j := nI i) rfl rfl hA, if_neg (nI_pos (by omega)), nI_clamp (by omega)]
    show (rf_scr 400)[i]? = _
    rw [Array.getElem?_eq_getElem hi2, hz]
  show (_ == some true) = true
  rw [h2]
  rfl
set_option maxRecDepth 16384 in
theorem rf_start : AtStart classFile x code maxLocals ret World_1 tables_1 room_1 Calls_1 rest_1 Pre_1 launch0 start1.p0 start1.e0 (rf_S 400) ⟨0, 0⟩ start1.args0 Lib.HandBits.below0 := by
  have hn : ∀ {a b : Cond}, a.before start1.args0 (rf_S 400) = true → b.before start1.args0 (rf_S 400) = true → (Cond.and a b).before start1.args0 (rf_S 400) = true := fun h1 h2 => by rw [Cond.before_and, Bool.and_eq_true]; exact ⟨h1, h2⟩
  have n1 : narrow_1_1.before start1.args0 (rf_S 400) = true := by decide +kernel
  have n2 : narrow_1_2.before start1.args0 (rf_S 400) = true := by decide +kernel
  have n3 : narrow_1_3.before start1.args0 (rf_S 400) = true := by decide +kernel
  have n4 : narrow_1_4.before start1.args0 (rf_S 400) = true := by decide +kernel
  refine ⟨lists_1, trivial, launch0.admits_env _ _ _, launch0.least_env, fairChoices_fair.cas, fairChoices_fair.clock, rfl, by decide +kernel, rf_fits,
    (Spec.applies_iff rfl).mpr ⟨rfl, rfl, rfl, by decide +kernel, by decide +kernel, by decide +kernel, launch0.hasRoom_least _ room_1 (by decide +kernel) (by decide +kernel) (by decide +kernel) (by decide +kernel) (by decide +kernel) (by decide +kernel), atoms_intro rf_words⟩,
    trivial, rf_rest, hn (show given_1.before start1.args0 (rf_S 400) = true by decide +kernel) ?_⟩
  unfold narrow_1
  exact hn (hn n1 n2) (hn n3 n4)
end
section
theorem rf_run : rf_un start1.p0.tables start1.e0 2600 (rf_S 400) (fun t => rf_K1 t && rf_K2 t) = true := by decide +kernel
theorem rf_long : ∃ t, Steps start1.p0.tables start1.e0 Lib.HandBits.below0 (rf_S 400) t ∧ t.heap.size = 800548 := by
  obtain ⟨T, h1, h2⟩ := rf_un_eq 2600 (rf_S 400) rf_run
  obtain ⟨t, h3, h4⟩ := rf_walk h1 h2
  exact ⟨t, h1.trans h3, h4⟩
/-- Claimed_1_1 is false: 400 calls of ofWindow(0, 5) leave more cells than it promises -/
theorem rf_not : ¬ Claimed_1_1 := by
  intro h
  obtain ⟨hl, hw, ha, -, hc, hk, hf, hg, hh, hp, c1, c2, c3⟩ := rf_start
  obtain ⟨n, o, w1, w2, w3, w4⟩ := h launch0 rfl hl hw start1.p0 start1.e0 ha hc hk (rf_S 400) ⟨0, 0⟩ start1.args0 Lib.HandBits.below0 hf hg hh hp ⟨c1, c2, c3⟩
  obtain ⟨t, ⟨N, e1, e2⟩, e3⟩ := rf_long
  have hN : N ≤ n := Nat.le_of_not_lt (fun hlt => w3.not_within (e2 n hlt))
  obtain ⟨d, rfl⟩ : ∃ d, n = N + d := ⟨n - N, by omega⟩
  have hgrow := (stepsAlone_heap_grows_add start1.p0.tables start1.e0 N d (rf_S 400)).1
  rw [e1, e3] at hgrow
  have hfr : (stepsAlone start1.p0.tables start1.e0 (N + d) (rf_S 400)).heap.size ≤ (rf_S 400).heap.size + 798931 := w4.2.2.2.2.2.1
  have h59 : (rf_S 400).heap.size = 59 := rfl
  omega
theorem i_vc : Claimed_1_1 ∧ Claimed_1_2 := sorry
end
