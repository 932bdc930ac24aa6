/-! THE RUN to the loop's third call, and what is checked there -/
def rf_law? (s : State) : Option (Array Slot) := match s.frames with
  | [.java ⟨⟨0, 0⟩, 27, ls, [], none, [], 0⟩, b] => match rf_bot b with
    | true => some ls
    | false => none
  | _ => none
theorem rf_law?_eq {s : State} {ls : Array Slot} (h : rf_law? s = some ls) : s.frames = .java (F0 ⟨0, 0⟩ 27 ls []) :: Lib.HandBits.below0 := by
  unfold rf_law? at h
  split at h
  · rename_i ls' b hf
    split at h
    · rename_i hb
      cases h
      rw [hf, ← rf_bot_eq hb]
    · cases h
  · cases h
def rf_stop (s : State) : Bool := match rf_law? s with
  | some ls => match (ls[4]? : Option Slot) with
    | some (.val (.int x)) => x == 12
    | _ => false
  | none => false
/-- as rf_fS, the heap's cells only where 'b' says so (a state's heap is read as it stands, and brought to its constructors now and then) -/
def rf_gS {β : Type} (b : Bool) (s : State) (k : State → β) : β := match s with
  | ⟨h, vx, ⟨[t]⟩, cur, w, d, now, su, st⟩ => match b with
    | true => rf_fA rf_fC h fun h => rf_fM vx fun vx => rf_fT t fun t => rf_fN cur fun cur => rf_fW w fun w => rf_fD d fun d => rf_fN now fun now => rf_fN su fun su => rf_fQ st fun st => k ⟨h, vx, ⟨[t]⟩, cur, w, d, now, su, st⟩
    | false => rf_fM vx fun vx => rf_fT t fun t => rf_fN cur fun cur => rf_fW w fun w => rf_fD d fun d => rf_fN now fun now => rf_fN su fun su => rf_fQ st fun st => k ⟨h, vx, ⟨[t]⟩, cur, w, d, now, su, st⟩
  | s => k s
theorem rf_gS_eq {β : Type} (b : Bool) (s : State) (k : State → β) : rf_gS b s k = k s := by
  unfold rf_gS
  split
  · cases b
    · simp only [rf_fM_eq, rf_fT_eq, rf_fN_eq, rf_fW_eq, rf_fD_eq, rf_fQ_eq]
    · simp only [rf_fA_eq (f := rf_fC) (fun a k => rf_fC_eq a k), rf_fM_eq, rf_fT_eq, rf_fN_eq, rf_fW_eq, rf_fD_eq, rf_fQ_eq]
  · rfl
def rf_un (tb : Tables) (e : Env) : Nat → State → (State → Bool) → Bool
  | 0, _, _ => false
  | n + 1, s, K => match rf_stop s with
    | true => K s
    | false => match rf_ok s with
      | true => match rf_arr e s with
        | some s => rf_gS (Nat.beq (n % 32) 0) s fun s => rf_un tb e n s K
        | none => rf_gS (Nat.beq (n % 32) 0) (stepThread tb e s).1 fun s => rf_un tb e n s K
      | false => false
theorem rf_un_eq {p : Program} {e : Env} {K : State → Bool} : ∀ (n : Nat) (s : State), rf_un p.tables e n s K = true → ∃ t, Steps p.tables e Lib.HandBits.below0 s t ∧ K t = true := by
  intro n
  induction n with
  | zero => intro s h; cases h
  | succ n ih =>
    intro s h
    unfold rf_un at h
    split at h
    · exact ⟨s, Steps.refl s, h⟩
    · split at h
      · rename_i hq
        split at h
        · rename_i s' hs
          rw [rf_gS_eq] at h
          obtain ⟨t, g1, g2⟩ := ih _ h
          exact ⟨t, (rf_arr_eq hq hs).trans g1, g2⟩
        · rw [rf_gS_eq] at h
          obtain ⟨t, g1, g2⟩ := ih _ h
          obtain ⟨h1, h2, h3, h4⟩ := rf_ok_eq hq
          have st : Steps p.tables e Lib.HandBits.below0 s (stepThread p.tables e s).1 := by
            refine ⟨1, by simp only [stepsAlone, h2, h3, h4], fun k hk => ?_⟩
            have : k = 0 := by omega
            subst this; exact h1
          exact ⟨t, st.trans g1, g2⟩
      · cases h
def rf_ut (tb : Tables) (e : Env) : Nat → State → Option State
  | 0, _ => none
  | n + 1, s => match rf_stop s with
    | true => some s
    | false => match rf_ok s with
      | true => match rf_arr e s with
        | some s => rf_ut tb e n s
        | none => rf_ut tb e n (stepThread tb e s).1
      | false => none
theorem rf_un_ut {tb : Tables} {e : Env} {K : State → Bool} : ∀ (n : Nat) (s : State), rf_un tb e n s K = (match rf_ut tb e n s with | some t => K t | none => false) := by
  intro n
  induction n with
  | zero => intro s; rfl
  | succ n ih =>
    intro s
    unfold rf_un rf_ut
    cases rf_stop s
    · cases rf_ok s
      · rfl
      · cases h : rf_arr e s
        · simp only [rf_gS_eq]; exact ih _
        · simp only [rf_gS_eq]; exact ih _
    · rfl
theorem rf_un_and {tb : Tables} {e : Env} {K1 K2 : State → Bool} {n : Nat} {s : State} (h1 : rf_un tb e n s K1 = true) (h2 : rf_un tb e n s K2 = true) : rf_un tb e n s (fun t => K1 t && K2 t) = true := by
  rw [rf_un_ut] at *
  cases h : rf_ut tb e n s with
  | none => simp only [h] at h1; cases h1
  | some t => simp only [h] at h1 h2 ⊢; rw [h1, h2]; rfl
/-- the law's local variables -/
def rb_loc (ls : Array Slot) : Bool := decide (ls.size = 7) && (ls.toList.all (fun z => match z with
  | .val v => v.category == 1
  | .unset => true
  | .second => false) && [(4, Value.int 12), (0, .ref 0), (1, .ref 59), (2, .ref 126), (3, .ref 140)].all (fun q => match (ls[q.1]? : Option Slot) with
  | some (.val v) => decide (v = q.2)
  | _ => false))
theorem rb_loc_eq {ls : Array Slot} (h : rb_loc ls = true) : lv_has ls 7 [(4, .int (nI (12 + 6 * 0))), (0, .ref 0), (1, .ref 59), (2, .ref 126), (3, .ref 140)] := by
  unfold rb_loc at h
  simp only [Bool.and_eq_true, decide_eq_true_eq] at h
  obtain ⟨h1, h2, h3⟩ := h
  have hz : ∀ (i : Nat) (z : Slot), ls[i]? = some z → (match z with | .val v => v.category == 1 | .unset => true | .second => false) = true := fun i z hi =>
    List.all_eq_true.mp h2 z (List.mem_of_getElem? (by rw [Array.getElem?_toList]; exact hi))
  refine ⟨h1, ⟨fun i v hi hc => ?_, fun i hi => ?_⟩, fun q hq => ?_⟩
  · have := hz i _ hi
    simp only [hc] at this
    cases this
  · have := hz i _ hi
    cases this
  · have h4 := List.all_eq_true.mp h3 q hq
    split at h4
    · rename_i v hv
      rw [hv, of_decide_eq_true h4]
    · cases h4
/-- cells -/
def rb_none (c : Cell) : Bool := match c.vm with
  | .none => true
  | _ => false
theorem rb_none_eq {c : Cell} (h : rb_none c = true) : c.vm = .none := by
  unfold rb_none at h
  split at h
  · assumption
  · cases h
def rb_at (H : Heap) (z : Nat × Nat × Nat × List (Nat × Value)) : Bool := match H[z.1]? with
  | some c => (c.cls == z.2.1) && (rb_none c && ((c.slots.size == z.2.2.1) && z.2.2.2.all (fun q => decide (c.slots[q.1]? = some q.2))))
  | none => false
theorem rb_at_eq {H : Heap} {z : Nat × Nat × Nat × List (Nat × Value)} (h : rb_at H z = true) : rc_at H z.1 z.2.1 z.2.2.1 z.2.2.2 := by
  unfold rb_at at h
  split at h
  · rename_i c hc
    simp only [Bool.and_eq_true, beq_iff_eq] at h
    exact ⟨c, hc, h.1, rb_none_eq h.2.1, h.2.2.1, fun q hq => of_decide_eq_true (List.all_eq_true.mp h.2.2.2 q hq)⟩
  · cases h
def rb_vals : List Value → List Value → Bool
  | [], [] => true
  | a :: l, b :: r => match decide (a = b) with
    | true => rb_vals l r
    | false => false
  | _, _ => false
theorem rb_vals_eq : ∀ l r : List Value, rb_vals l r = true → l = r
  | [], [], _ => rfl
  | [], b :: r, h => by simp [rb_vals] at h
  | a :: l, [], h => by simp [rb_vals] at h
  | a :: l, b :: r, h => by
    unfold rb_vals at h
    split at h
    · rename_i hq
      rw [of_decide_eq_true hq, rb_vals_eq l r h]
    · cases h
def rb_scr (H : Heap) : Bool := match H[0]? with
  | some c => (c.cls == 49) && (rb_none c && rb_vals c.slots.toList ((rf_ints 400).map Value.int))
  | none => false
theorem rb_scr_eq {H : Heap} (h : rb_scr H = true) : rSc H := by
  unfold rb_scr at h
  split at h
  · rename_i c hc
    simp only [Bool.and_eq_true, beq_iff_eq] at h
    refine ⟨c, hc, h.1, rb_none_eq h.2.1, ?_⟩
    have h3 := rb_vals_eq _ _ h.2.2
    unfold rf_scr
    rw [← h3]
  · cases h
def rb_six (H : Heap) : Bool := match H[6]? with
  | some c => (match c.vm with | .statics k => k == 47 | _ => false) && decide (c.slots[3]? = some (.ref 9))
  | none => false
theorem rb_six_eq {H : Heap} (h : rb_six H = true) : ∃ c : Cell, H[6]? = some c ∧ c.vm = .statics 47 ∧ c.slots[3]? = some (.ref 9) := by
  unfold rb_six at h
  split at h
  · rename_i c hc
    simp only [Bool.and_eq_true, decide_eq_true_eq] at h
    refine ⟨c, hc, ?_, h.2⟩
    have h1 := h.1
    split at h1
    · rename_i k hk
      rw [hk, beq_iff_eq.mp h1]
    · cases h1
  · cases h
def rb_heap (H : Heap) : Bool := decide (H.size = 148) && (rf_HL.all (rb_at H) && (rb_six H && (rb_at H (140, 10, 2, []) && rb_scr H)))
/-- the tables -/
def rb_tab (T : State) : Bool := (rf_W.take 60).all (fun w => rf_good w && w.before #[] T) && (rf_FL.all (rb_fld T) && (rf_CL.all (rb_cls T) && (rf_AL.all (rb_arr T) && ((rb_sta T && decide (T.vm.findClass "[I" = some 49)) && rf_X.all (fun w => w.onTables && w.before #[] T)))))
def rf_K2 (T : State) : Bool := (rf_W.drop 60).all (fun w => rf_good w && w.before #[] T)
theorem rb_tab_eq {T : State} (h : rb_tab T = true) (h2 : rf_K2 T = true) : rK T := by
  unfold rb_tab at h
  unfold rf_K2 at h2
  simp only [Bool.and_eq_true, List.all_eq_true, decide_eq_true_eq] at h h2
  refine ⟨fun w hw => ?_, h.2.1, h.2.2.1, h.2.2.2.1, h.2.2.2.2.1, h.2.2.2.2.2⟩
  rw [← List.take_append_drop 60 rf_W] at hw
  rcases List.mem_append.mp hw with hw | hw
  · exact h.1 w hw
  · exact h2 w hw
/-- a start in the law's stead: its tables and cells are those behind the run -/
def rf_s1 (T : State) : State := T.setFrames (.invoking ⟨0, 0⟩ start1.args0 :: Lib.HandBits.below0)
def rb_law (T : State) : Bool := decide (T.vm.findClass "TimeStoreLaw" = some 0) && (((T.vm.classes[0]?).any fun q => plainName q.name) && (rf_s1 T).hasRoom start1.e0.platform rR9)
def rf_K1 (T : State) : Bool := match rf_law? T with
  | some ls => rb_loc ls && (rf_ok T && (rb_heap T.heap && (rb_law T && rb_tab T)))
  | none => false
theorem rf_stays (tb : Tables) (e : Env) {m : MethodId} {meth : Method} : ∀ (n : Nat) {s : State}, s.vm.method? m = some meth → (stepsAlone tb e n s).vm.method? m = some meth
  | 0, _, h => h
  | n + 1, s, h => by
    unfold stepsAlone
    split
    · exact rf_stays tb e n (stepThread_method? tb e h)
    · exact h
/-- the law's own method stays what it was -/
theorem rf_meth {T : State} (hS : Steps start1.p0.tables start1.e0 Lib.HandBits.below0 (rf_S 400) T) : ∃ meth c, T.vm.method? ⟨0, 0⟩ = some meth ∧ meth.code = some c ∧ c.code = code ∧ c.maxLocals = 7 := by
  obtain ⟨n, rfl, -⟩ := hS
  have hn : start1.about.methodNamed? x = some ⟨0, 0⟩ := by decide +kernel
  obtain ⟨meth, c, h1, h2, h3, h4, -, -, -, -⟩ := Cond.code_spec hn start1.word_code
  exact ⟨meth, c, rf_stays _ _ n h1, h2, h3, h4⟩
theorem rf_stand {T : State} {ls : Array Slot} (hS : Steps start1.p0.tables start1.e0 Lib.HandBits.below0 (rf_S 400) T) (h : rf_law? T = some ls) (hok : rf_ok T = true) (hr : rb_law T = true) : ∃ meth c, c.code = code ∧ c.maxLocals = 7 ∧ T.vm.findClass "TimeStoreLaw" = some 0 ∧ Stand start1.p0 launch0 start1.e0 rR9 (rf_s1 T) ⟨0, 0⟩ start1.args0 Lib.HandBits.below0 meth c T [] 0 0 := by
  unfold rb_law at hr
  simp only [Bool.and_eq_true, decide_eq_true_eq] at hr
  obtain ⟨r2, r3, r4⟩ := hr
  obtain ⟨meth, c, h1, h2, h3, h4⟩ := rf_meth hS
  obtain ⟨h5, h6, h7, h8⟩ := rf_ok_eq hok
  have hf := rf_law?_eq h
  obtain ⟨t, ht, -⟩ := State.frames_cons hf
  have hcur : T.cur < T.threads.size := State.cur_lt_of_frames hf
  have hcd : T.code? ⟨0, 0⟩ = some c := by rw [State.code?_eq, h1]; exact h2
  have htop : T.topJava?.isSome := by simp [State.topJava?, hf]
  refine ⟨meth, c, h3, h4, r2, ⟨launch0.admits_env _ _ _, fairChoices_fair.cas, fairChoices_fair.clock, State.frames_setFrames _ hcur, r4, rfl, h1, h2, ⟨htop, ⟨[], by rw [hf]; rfl⟩, h6, h7, h8, hcd, fun k hk => plain_of_name (by rw [hk] at r3; simpa using r3)⟩, by rw [hf]; rfl, State.WarmedH.refl (rf_s1 T), by unfold rf_s1; rw [State.stackLimits_setFrames], by unfold rf_s1; rw [State.stackBytes_setFrames], ?_⟩⟩
  obtain ⟨t1, ht1, -⟩ := State.frames_cons (State.frames_setFrames (s := T) (.invoking ⟨0, 0⟩ start1.args0 :: Lib.HandBits.below0) hcur)
  have hs := (State.sameButNew.refl (rf_s1 T) ht1).setFrames T.frames (by show (T.setFrames _).cur < (T.setFrames _).threads.size; exact State.cur_lt_of_frames (State.frames_setFrames (s := T) (.invoking ⟨0, 0⟩ start1.args0 :: Lib.HandBits.below0) hcur))
  have e1 : (rf_s1 T).setFrames T.frames = T := by unfold rf_s1; rw [State.setFrames_setFrames, State.setFrames_self ht]
  rw [e1] at hs
  exact hs
theorem rf_walk {T : State} (hS : Steps start1.p0.tables start1.e0 Lib.HandBits.below0 (rf_S 400) T) (h : (rf_K1 T && rf_K2 T) = true) : ∃ t, Steps start1.p0.tables start1.e0 Lib.HandBits.below0 T t ∧ t.heap.size = 800548 := by
  rw [Bool.and_eq_true] at h
  obtain ⟨h, hK2⟩ := h
  unfold rf_K1 at h
  split at h
  · rename_i ls hl
    simp only [Bool.and_eq_true] at h
    obtain ⟨h1, h2, h3, h4, h5⟩ := h
    unfold rb_heap at h3
    simp only [Bool.and_eq_true, decide_eq_true_eq] at h3
    obtain ⟨g1, g2, g3, g4, g5⟩ := h3
    obtain ⟨meth, c, c1, c2, c3, X⟩ := rf_stand hS hl h2 h4
    have hR : rHB T.heap := ⟨by omega, fun z hz => rb_at_eq (List.all_eq_true.mp g2 z hz), rb_six_eq g3⟩
    have key := l_law (t0 := T) (rb_tab_eq h5 hK2) (p := start1.p0) (e := start1.e0) (s := rf_s1 T) (m := ⟨0, 0⟩) (args := start1.args0) (below := Lib.HandBits.below0) (meth := meth) (c := c) (Q := fun t => t.heap.size = 800548) rfl c1 c2 c3 (State.WarmedH.refl T)
      (fun H ls locs C S hz T' hT X' => ⟨_, Steps.refl _, by show T'.heap.size = 800548; rw [hT]; exact hz⟩) 400 0 rfl T.heap ls [] 0 0 rfl rfl g1 hR (rb_at_eq g4) (rb_scr_eq g5) (rb_loc_eq h1)
    obtain ⟨t, a, b⟩ := key T rfl X
    have htop : T.topJava? = some (F0 ⟨0, 0⟩ 27 ls []) := by simp [State.topJava?, rf_law?_eq hl]
    rw [State.setTop_self htop] at a
    exact ⟨t, a, b⟩
  · cases h
