/-! CONTRACTS, the two sides of ofWindow(0, 5) as the law calls them -/
set_option maxHeartbeats 1000000 in
set_option maxRecDepth 100000 in
theorem c_mofWin {t0 : State} (hk : rK t0) (sz : Nat) : RM t0 my_mofWin mb_mofWin 4 (some .int) 6 220 2001 7003 [.ref 126, .int 0, .int 5] (fun H => H.size = sz ∧ rHB H) (fun H v H1 => ∃ r : Int32, v = some (.int r) ∧ H1.size = sz + 2001 ∧ ∀ x, x < sz → H1[x]? = H[x]?) (fun x => x = 126 ∨ sz ≤ x) := by
  refine rg_body (by decide +kernel) (Nat.le_of_ble_eq_true rfl) (fun p e s m below meth c ls hx hb hml hr hlocks hown hname hW hB hl => ?_)
  have hl : lv_has ls 4 [(0, .ref 126), (1, .int 0), (2, .int 5)] := hl
  obtain ⟨hsz, hR⟩ := hB
  subst hsz
  have h148 := hR.1
  refine lv_aload_n hx hb md_mofWin_0 rfl (lv_at hl 0 rfl) ?_
  refine lv_aload_n hx hb md_mofWin_1 rfl (lv_at hl 0 rfl) ?_
  refine lv_iload_n hx hb md_mofWin_2 rfl (lv_at hl 1 rfl) ?_
  refine rg_cv hk hW hx hb hml hl.1 (own := "TimeStoreModel") hown (rest := [.ref 126]) (c_isNoWin hk) qc_TimeStoreModel.2.2 (by decide +kernel) (rHB.at hR 6 rfl) (hR) 1 rfl (by decide +kernel) ⟨by decide +kernel, by decide +kernel, by decide +kernel⟩ ⟨Nat.le_of_ble_eq_true rfl, Nat.le_of_ble_eq_true rfl⟩ (Nat.le_of_ble_eq_true rfl) ⟨Nat.le_of_ble_eq_true rfl, Nat.le_of_ble_eq_true rfl⟩ md_mofWin_3 rfl (fun v H1 L hp hL => ?_)
  obtain ⟨rfl, rfl⟩ := hp
  obtain rfl : L = [] := rg_nil hL
  refine W.eq (g2 := F0 m 6 ls [.int 0, .ref 126]) rfl ?_
  refine lv_iconst (v := (1)) hx hb md_mofWin_6 (by decide) ?_
  refine rg_cv hk hW hx hb hml hl.1 (own := "TimeStoreModel") hown (rest := []) (c_start hk 1) qc_TimeStoreModel.2.2 (by decide +kernel) (rHB.at hR 6 rfl) (hR) 2 rfl (by decide +kernel) ⟨by decide +kernel, by decide +kernel, by decide +kernel⟩ ⟨Nat.le_of_ble_eq_true rfl, Nat.le_of_ble_eq_true rfl⟩ (Nat.le_of_ble_eq_true rfl) ⟨Nat.le_of_ble_eq_true rfl, Nat.le_of_ble_eq_true rfl⟩ md_mofWin_7 rfl (fun v H1 L1 hp hL1 => ?_)
  obtain ⟨rfl, rfl⟩ := hp
  refine W.eq (g2 := F0 m 10 ls [.int 0]) rfl ?_
  refine lv_if_ne (tgt := 36) hx hb md_mofWin_10 (by decide) (fun h => absurd (rfl) h) (fun _ => ?_)
  refine lv_aload_n hx hb md_mofWin_13 rfl (lv_at hl 0 rfl) ?_
  refine lv_iload_n hx hb md_mofWin_14 rfl (lv_at hl 2 rfl) ?_
  refine lv_iconst (v := (0)) hx hb md_mofWin_15 (by decide) ?_
  refine lv_bipush (v := (6)) hx hb md_mofWin_16 (by decide) ?_
  refine rg_cs hk hW hx hb hml hl.1 (own := "TimeStoreModel") hown (rest := [.ref 126]) (c_isIn1 hk 5 0 6 (by decide) (by decide)) (trivial) 3 rfl (by decide +kernel) ⟨by decide +kernel, by decide +kernel, by decide +kernel⟩ ⟨Nat.le_of_ble_eq_true rfl, Nat.le_of_ble_eq_true rfl⟩ (Nat.le_of_ble_eq_true rfl) ⟨Nat.le_of_ble_eq_true rfl, Nat.le_of_ble_eq_true rfl⟩ md_mofWin_18 rfl (fun v H1 L hp hL => ?_)
  obtain ⟨rfl, rfl⟩ := hp
  obtain rfl : L = [] := rg_nil hL
  refine W.eq (g2 := F0 m 21 ls [.int 1, .ref 126]) rfl ?_
  refine lv_if_ne (tgt := 28) hx hb md_mofWin_21 (by decide) (fun _ => ?_) (fun h => absurd h (by decide))
  refine lv_iconst (v := (0)) hx hb md_mofWin_28 (by decide) ?_
  refine lv_iconst (v := (2)) hx hb md_mofWin_29 (by decide) ?_
  refine rg_cv hk hW hx hb hml hl.1 (own := "TimeStoreModel") hown (rest := []) (c_refuse hk 2) qc_TimeStoreModel.2.2 (by decide +kernel) (rHB.at hR 6 rfl) (hR) 2 rfl (by decide +kernel) ⟨by decide +kernel, by decide +kernel, by decide +kernel⟩ ⟨Nat.le_of_ble_eq_true rfl, Nat.le_of_ble_eq_true rfl⟩ (Nat.le_of_ble_eq_true rfl) ⟨Nat.le_of_ble_eq_true rfl, Nat.le_of_ble_eq_true rfl⟩ md_mofWin_30 rfl (fun v H1 L hp hL => ?_)
  obtain ⟨rfl, rfl⟩ := hp
  obtain rfl : L = [] := rg_nil hL
  refine W.eq (g2 := F0 m 33 ls [.int 0]) rfl ?_
  refine lv_if_eq (tgt := 38) hx hb md_mofWin_33 (by decide) (fun _ => ?_) (fun h => absurd (rfl) h)
  refine lv_aload_n hx hb md_mofWin_38 rfl (lv_at hl 0 rfl) ?_
  refine rg_get hk hW hx hb (own := "TimeStoreModel")  hown qf_TimeStoreModel_windows (by decide +kernel) (by decide +kernel) (v := .ref 138) (rHB.at hR 6 rfl) 2 rfl md_mofWin_39 ?_
  refine lv_iload_n hx hb md_mofWin_42 rfl (lv_at hl 1 rfl) ?_
  refine rg_cv hk hW hx hb hml hl.1 (own := "TimeStoreModel") hown (rest := []) (c_get hk) qc_ArrayList.2.2 (by decide +kernel) (rHB.at hR 7 rfl) (hR) 1 rfl (by decide +kernel) ⟨by decide +kernel, by decide +kernel, by decide +kernel⟩ ⟨Nat.le_of_ble_eq_true rfl, Nat.le_of_ble_eq_true rfl⟩ (Nat.le_of_ble_eq_true rfl) ⟨Nat.le_of_ble_eq_true rfl, Nat.le_of_ble_eq_true rfl⟩ md_mofWin_43 rfl (fun v H1 L hp hL => ?_)
  obtain ⟨rfl, rfl⟩ := hp
  obtain rfl : L = [] := rg_nil hL
  refine W.eq (g2 := F0 m 46 ls [.ref 146]) rfl ?_
  refine rg_cast hk hW hx hb (own := "TimeStoreModel") hown (nm := "[I") (by decide +kernel) (rHB.at hR 9 rfl) (rg_I hk hW) md_mofWin_46 ?_
  refine lv_astore_n (lv' := [(3, .ref 146), (0, .ref 126), (1, .int 0), (2, .int 5)]) hx hb md_mofWin_49 rfl hl (by decide) rfl (fun ls hl => ?_)
  refine lv_iload_n hx hb md_mofWin_50 rfl (lv_at hl 3 rfl) ?_
  refine lv_iconst (v := (4)) hx hb md_mofWin_51 (by decide) ?_
  refine lv_icmp_ge (tgt := 61) hx hb md_mofWin_52 (by decide) (fun _ => ?_) (fun h => absurd (by decide) h)
  refine lv_aload_n hx hb md_mofWin_61 rfl (lv_at hl 1 rfl) ?_
  refine lv_aload_n hx hb md_mofWin_62 rfl (lv_at hl 0 rfl) ?_
  refine rg_cv hk hW hx hb hml hl.1 (own := "TimeStoreModel") hown (rest := []) (c_periods hk s.heap.size) qc_TimeStoreModel.2.2 (by decide +kernel) (rHB.at hR 6 rfl) (⟨rfl, hR⟩) 1 rfl (by decide +kernel) ⟨by decide +kernel, by decide +kernel, by decide +kernel⟩ ⟨Nat.le_of_ble_eq_true rfl, Nat.le_of_ble_eq_true rfl⟩ (Nat.le_of_ble_eq_true rfl) ⟨Nat.le_of_ble_eq_true rfl, Nat.le_of_ble_eq_true rfl⟩ md_mofWin_63 rfl (fun v H1 L3 hp hL3 => ?_)
  obtain ⟨h, rfl, n1, z1, k1⟩ := hp
  refine W.eq (g2 := F0 m 66 ls [.ref h]) rfl ?_
  refine lv_iload_n hx hb md_mofWin_66 rfl (lv_at hl 3 rfl) ?_
  refine lv_iconst (v := (4)) hx hb md_mofWin_67 (by decide) ?_
  refine lv_isub hx hb md_mofWin_68 ?_
  refine rg_ialdI hk hW hx hb (by decide +kernel) (n := 3) n1 (by decide) (by decide) md_mofWin_69 (fun r => ?_)
  exact W.iret (v := r) hx hb hr (fun t ht _ => rg_q (by rw [ht]; exact ⟨r, rfl, z1, k1⟩)) (rg_lap (F := fun x : Nat => x = 126 ∨ s.heap.size ≤ x) (rg_lap (F := fun x : Nat => x = 126 ∨ s.heap.size ≤ x) (rg_lap (F := fun x : Nat => x = 126 ∨ s.heap.size ≤ x) (rg_lap (F := fun x : Nat => x = 126 ∨ s.heap.size ≤ x) (rg_lap (F := fun x : Nat => x = 126 ∨ s.heap.size ≤ x) (rg_lap (F := fun x : Nat => x = 126 ∨ s.heap.size ≤ x) (by simp) (by simp)) (fun x h => Or.inl (hL1 x h))) (by simp)) (by simp)) (by simp)) (fun x h => Or.inr (hL3 x h))) md_mofWin_70
/-- a contract over cells of a method with handlers -/
def RMW (t0 : State) (y : MethodName) (b : ByteArray) (maxL : Nat) (ret : Option FieldType) (hh : List (Nat × Nat × Nat × Nat)) (fr lo mc ms : Nat) (av : List Value) (B : Heap → Prop) (post : Heap → Option Value → Heap → Prop) (free : Addr → Prop) : Prop :=
  Met launch0 y [.codeWith y b maxL ret hh] (rRm fr lo mc ms) (rP t0 av B) (rQ post) mc ms free
theorem rg_bodyW {t0 : State} {y : MethodName} {b : ByteArray} {maxL : Nat} {ret : Option FieldType} {hh : List (Nat × Nat × Nat × Nat)} {fr lo mc ms : Nat} {av : List Value} {B : Heap → Prop} {post : Heap → Option Value → Heap → Prop} {free : Addr → Prop} (hy : plainName y.cls = true) (hn : (lg_sl av).length ≤ maxL)
    (h : ∀ (p : Program) (e : Env) (s : State) (m : MethodId) (below : List Frame) (meth : Method) (c : Code) (ls : Array Slot), p.tables.exec = Jvm.exec → c.code = b → c.maxLocals = maxL → meth.sig.returnType = ret → meth.locks = false → s.vm.findClass y.cls = some m.cls → meth.name = y.name → t0.WarmedH s.vm → B s.heap → lv_has ls maxL (lv_args 0 av) →
      W p launch0 e (rRm fr lo mc ms) s m av.toArray below meth c s.heap [] 0 0 (MQ below (rQ post) av.toArray s mc ms free) (F0 m 0 ls [])) : RMW t0 y b maxL ret hh fr lo mc ms av B post free := by
  refine va_MetW (cc := b) (maxL := maxL) (ret := ret) (hh := hh) hy rfl ?_
  intro p e s m args below meth c s₁ BL hml hv
  obtain ⟨rfl, hW, hB⟩ := hv
  have hl := lv_entry av (n := maxL) hn
  have key := h p e s m below meth c _ BL.exec BL.bytes hml BL.returns BL.notSynchronized (findClass_of_methodNamed BL.named) (name_of_methodNamed BL.named BL.method).1 hW hB hl
  rw [lg_entry_eq]
  exact key
section RF
variable {t0 : State} {p : Program} {e : Env} {R : Room} {s : State} {m : MethodId} {args : Array Value} {below : List Frame} {meth : Method} {c : Code} {H : Heap} {locs : List Loc} {cells slots : Nat} {Q : State → Prop} {cc : ByteArray} {pc : Nat} {ls : Array Slot} {rest : List Value}
/-- invokestatic of a method with handlers -/
theorem rg_csw (hk : rK t0) (hW : t0.WarmedH s.vm) (hx : p.tables.exec = Jvm.exec) (hb : c.code = cc) {nL : Nat} (hml : c.maxLocals = nL) (hsize : ls.size = nL) {own : String} (hown : s.vm.findClass own = some m.cls) {idx : Nat} {y : MethodName} {b : ByteArray} {maxL : Nat} {ret : Option FieldType} {hh : List (Nat × Nat × Nat × Nat)} {fr lo mc ms : Nat} {As : List Value} {B : Heap → Prop} {post : Heap → Option Value → Heap → Prop} {free : Addr → Prop} (hM : RMW t0 y b maxL ret hh fr lo mc ms As B post free) (hB : B H)
    (na : Nat) (hna : As.length = na)
    (hw : [Cond.methodLink own idx y, .codeWith y b maxL ret hh, .initialized y.cls, .static y].all (fun w => decide (w ∈ rf_W)) = true)
    (hd : y.cls ≠ "java/lang/invoke/MethodHandle" ∧ y.cls ≠ "java/lang/invoke/VarHandle" ∧ (parseMethodDescriptor y.desc).map (fun d => d.parameters.length) = some na) (hR : fr + 1 ≤ R.frames ∧ 8 + (maxL + 11) + lo ≤ R.locals) (hcat : (rest.map fun v => v.category).sum ≤ 8) (hf : cells + mc ≤ R.cells ∧ slots + ms ≤ R.slots) (hdg : decode cc pc = .ok (.invokestatic idx, 3)) {st : List Value} (hst : st = As.reverse ++ rest)
    (kk : ∀ (v : Option Value) (H1 : Heap) (L : List Loc), post H v H1 → (∀ x ∈ L, free x.base) → W p launch0 e R s m args below meth c H1 (locs ++ L) (cells + mc) (slots + ms) Q (F0 m (pc + 3) ls (v.toList ++ rest))) : W p launch0 e R s m args below meth c H locs cells slots Q (F0 m pc ls st) := by
  simp only [List.all_cons, List.all_nil, Bool.and_true, Bool.and_eq_true, decide_eq_true_eq] at hw
  obtain ⟨w1, w2, w3, w4⟩ := hw
  subst hst
  intro T hT X
  obtain ⟨mk, methM, cM, hnamed, hmethM, -, -, -, -, -, -, hsigM⟩ := Cond.codeWith_spec (rw_at hk hW w2 args)
  obtain ⟨kP, hkP, -⟩ := className_of_methodNamed hnamed
  have hlen : ∀ sig, parseMethodDescriptor y.desc = some sig → As.length = sig.parameters.length := fun sig h => by
    have h2 := hd.2.2
    rw [h] at h2
    exact hna.trans (Option.some.inj h2).symm
  obtain ⟨vm₁, X₁, st1⟩ := X.invokestatic hx hown (rw_at hk hW w1 args) hnamed hmethM (Cond.static_spec hnamed hmethM (rw_at hk hW w4 args)) hkP (Cond.initialized_spec (findClass_of_methodNamed hnamed) hkP (rw_at hk hW w3 args)) ⟨hd.1, hd.2.1⟩ (g := F0 m pc ls (As.reverse ++ rest)) rfl (argsL := As) (rest := rest) (hlen _ hsigM) rfl (by rw [hb]; exact hdg)
  have hK : Back launch0 R p e below s args y 3 8 (PreOf R mc ms (rP t0 As B)) (PostOf (rQ post) mc ms free) := va_backW (bytes := b) (maxL := maxL) (ret := ret) (hh := hh) hM rg_blind rfl rfl hR.1 hR.2 (fun w h a' U hU => by
    rw [List.mem_singleton.mp h]
    exact rw_up hk hW w2 a' U hU) List.mem_cons_self (fun a' U hU => rw_up hk hW w3 a' U hU)
  obtain ⟨v, ⟨U', l2, c2, s2⟩, X', ⟨g', mk', t, L, e1, e2, hq, h1, hL, h2, h3⟩, hsteps⟩ := hK m meth c ⟨T.setVm vm₁, locs, cells, slots⟩ { F0 m pc ls (As.reverse ++ rest) with stack := rest } (.invokestatic idx) mk As.toArray X₁ rfl (hsize.trans hml.symm) (by rw [hb]; exact hdg) (by show 2 * 0 + (rest.map fun v => v.category).sum ≤ 8; omega) (X₁.named hnamed) ⟨hf.1, hf.2, rfl, State.WarmedH.trans hW X₁.warmed, by show B (T.setVm vm₁).heap; rw [State.heap_setVm, hT]; exact hB⟩
  dsimp only [Pt.U, Pt.locs, Pt.cells, Pt.slots] at X' e1 e2 h1 h2 h3 hsteps
  subst h1; subst h2; subst h3
  obtain ⟨w, hw, hp⟩ := hq
  cases hw
  have hp2 : post H v U'.heap := by rw [e1, ← hT]; exact hp
  obtain ⟨t2, a1, b1⟩ := kk v U'.heap L hp2 hL U' rfl X'
  exact ⟨t2, st1 _ fun acts => by rw [doInvoke_state]; exact hsteps.trans a1, b1⟩
/-- a field of a nest mate is written -/
theorem rg_putN (hk : rK t0) (hW : t0.WarmedH s.vm) (hx : p.tables.exec = Jvm.exec) (hb : c.code = cc) {own host : String} (hown : s.vm.findClass own = some m.cls) {idx a n : Nat} (q : rf_Fd) (hq : q ∈ rf_FL) (hl : Cond.fieldLinkNest own idx q.1 q.2.1 q.2.2.1 host ∈ rf_W) (cl : String × Nat × List FieldType) (hcl : cl ∈ rf_CL) (hty : cl.2.2[q.2.2.2.1]? = some q.2.2.2.2.2.2) (hsz : n = cl.2.2.length)
    (hfin : q.2.2.2.2.2.1 = false) {vs : List (Nat × Value)} {v : Value} (hc : rc_at H a cl.2.1 n vs) (hn : narrow q.2.2.2.2.2.2 v = v) (hf : fits q.2.2.2.2.2.2 v = true) (hd : decode cc pc = .ok (.putfield idx, 3))
    (kk : ∀ H1 : Heap, H1.size = H.size → (∀ x, x ≠ a → H1[x]? = H[x]?) → rc_at H1 a cl.2.1 n [] → W p launch0 e R s m args below meth c H1 (locs ++ [⟨a, q.2.2.2.1⟩]) cells slots Q (F0 m (pc + 3) ls rest)) : W p launch0 e R s m args below meth c H locs cells slots Q (F0 m pc ls (v :: .ref a :: rest)) := by
  obtain ⟨k', i, f, hi, hst, hsl, hfl, hft⟩ := rg_fld hk hW hq
  obtain ⟨hfc, kC, hkC, hkind, htys⟩ := rg_cls hk hW hcl
  obtain ⟨cell, h1, h2, h3, h4, h5⟩ := hc
  have hlt : f.slot < cell.slots.size := by
    rw [hsl, h4, hsz]
    exact (List.getElem?_eq_some_iff.mp hty).1
  have hit : kC.instanceTypes[f.slot]? = some f.type := by
    rw [hsl, hft, ← Array.getElem?_toList, htys]; exact hty
  have hfs : s.fitsSlot cell.cls cell.vm f.slot v = true := by
    rw [h2, h3]
    exact fresh_fits (s := s) (U := s) (Vm.Alike.refl _) hkC hkind hit (by rw [hft]; exact hf)
  refine va_Wputf hx hb hown (rw_at hk hW hl _) hi hst (Or.inl (by rw [hfl]; exact hfin)) h1 (by rw [h3]; exact fun h => by cases h) hlt (by rw [hft]; exact hn) hfs rfl rfl hd ?_
  rw [hsl]
  have ha : a < H.size := (Array.getElem?_eq_some_iff.mp h1).1
  refine kk _ (by simp) (fun x hx => by simp [Array.getElem?_setIfInBounds, Ne.symm hx]) ⟨cell.setSlot q.2.2.2.1 v, by simp [Array.getElem?_setIfInBounds, ha], h2, h3, ?_, fun z hz => absurd hz List.not_mem_nil⟩
  show (cell.slots.setIfInBounds _ _).size = n
  rw [Array.size_setIfInBounds]; exact h4
end RF
set_option maxHeartbeats 1000000 in
set_option maxRecDepth 100000 in
theorem c_lofWin {t0 : State} (hk : rK t0) : RMW t0 my_lofWin mb_lofWin 5 (some .int) [(0, 11, 14, 19), (0, 11, 18, 21)] 4 170 0 0 [.ref 59, .int 0, .int 5, .ref 140] (fun H => rHB H ∧ rc_at H 140 10 2 []) (fun H v H1 => ∃ r : Int32, v = some (.int r) ∧ H1.size = H.size ∧ (∀ x, x ≠ 140 → H1[x]? = H[x]?) ∧ rc_at H1 140 10 2 []) (fun x => x = 140) := by
  refine rg_bodyW (by decide +kernel) (Nat.le_of_ble_eq_true rfl) (fun p e s m below meth c ls hx hb hml hr hlocks hown hname hW hB hl => ?_)
  have hl : lv_has ls 5 [(0, .ref 59), (1, .int 0), (2, .int 5), (3, .ref 140)] := hl
  obtain ⟨hR, hO⟩ := hB
  refine lv_aload_n hx hb md_lofWin_0 rfl (lv_at hl 3 rfl) ?_
  refine lv_aload_n hx hb md_lofWin_1 rfl (lv_at hl 0 rfl) ?_
  refine lv_iload_n hx hb md_lofWin_2 rfl (lv_at hl 1 rfl) ?_
  refine lv_iload_n hx hb md_lofWin_3 rfl (lv_at hl 2 rfl) ?_
  refine rg_cv hk hW hx hb hml hl.1 (own := "TimeStoreLaw") hown (rest := [.ref 140]) (c_cofWin hk) qc_TimeStore.2.2 (by decide +kernel) (rHB.at hR 0 rfl) (hR) 2 rfl (by decide +kernel) ⟨by decide +kernel, by decide +kernel, by decide +kernel⟩ ⟨Nat.le_of_ble_eq_true rfl, Nat.le_of_ble_eq_true rfl⟩ (Nat.le_of_ble_eq_true rfl) ⟨Nat.le_of_ble_eq_true rfl, Nat.le_of_ble_eq_true rfl⟩ md_lofWin_4 rfl (fun v H1 L hp hL => ?_)
  obtain ⟨rfl, rfl⟩ := hp
  obtain rfl : L = [] := rg_nil hL
  refine W.eq (g2 := F0 m 7 ls [.int (-9), .ref 140]) rfl ?_
  refine lv_i2l (v := ((-9) : Int32).toInt64) hx hb md_lofWin_7 rfl ?_
  refine lv_topl (fun xv1 exv1 => ?_)
  refine rg_putN hk hW hx hb (own := "TimeStoreLaw") (host := "TimeStoreLaw") hown qf_TimeStoreLawOut_n (by decide +kernel) (by decide +kernel) qc_TimeStoreLawOut (by decide +kernel) rfl rfl rfl hO rfl rfl md_lofWin_8 (fun H1 z1 k1 n1 => ?_)
  refine lv_goto (tgt := 22) hx hb md_lofWin_11 (by decide) ?_
  refine lv_iconst (v := (0)) hx hb md_lofWin_22 (by decide) ?_
  exact W.iret (v := 0) hx hb hr (fun t ht _ => rg_q (by rw [ht]; exact ⟨0, rfl, z1, k1, n1⟩)) (rg_lap (F := fun x : Nat => x = 140) (by simp) (rg_lone (F := fun x : Nat => x = 140) rfl)) md_lofWin_23
