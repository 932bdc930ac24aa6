/-! CONTRACTS, the minutes of a window -/
theorem rv_sub {ls : Array Slot} {n : Nat} {lv lv' : List (Nat × Value)} (h : lv_has ls n lv) (is : List Nat) (hs : is.map (fun i => lv[i]?) = lv'.map some) : lv_has ls n lv' := by
  refine ⟨h.1, h.2.1, fun q hq => ?_⟩
  have h6 : some q ∈ is.map (fun i => lv[i]?) := by rw [hs]; exact List.mem_map.mpr ⟨q, hq, rfl⟩
  obtain ⟨i, -, hi⟩ := List.mem_map.mp h6
  exact h.2.2 q (List.mem_of_getElem? hi)
set_option maxHeartbeats 1000000 in
set_option maxRecDepth 100000 in
/-- the loop over the minutes: 999 rounds, each leaves two new cells -/
theorem l_per {t0 : State} (hk : rK t0) {p : Program} {e : Env} {s : State} {m : MethodId} {args : Array Value} {below : List Frame} {meth : Method} {c : Code} {Q : State → Prop} (hx : p.tables.exec = Jvm.exec) (hb : c.code = mb_periods) (hml : c.maxLocals = 7) (hown : s.vm.findClass "TimeStoreModel" = some m.cls) (hW : t0.WarmedH s.vm) (sz : Nat) (h148 : 148 ≤ sz)
    (hend : ∀ (H : Heap) (ls : Array Slot) (locs : List Loc), H.size = sz + 2000 → (∀ x, x < sz → H[x]? = s.heap[x]?) → (∀ x ∈ locs, (fun x : Nat => sz ≤ x) x.base) → lv_has ls 7 [(2, .int 0), (3, .int (-9)), (4, .int (-9))] → W p launch0 e (rRm 5 180 2001 7003) s m args below meth c H locs 2000 7000 Q (F0 m 70 ls [])) :
    ∀ (d k : Nat), d + k = 999 → ∀ (H : Heap) (ls : Array Slot) (locs : List Loc) (C S : Nat), C = 2 + 2 * k → S = 7 + 7 * k → H.size = sz + 2 + 2 * k → rHB H → rc_at H sz 47 3 [(0, .int 0), (2, .int 0)] → (∀ x, x < sz → H[x]? = s.heap[x]?) → (∀ x ∈ locs, (fun x : Nat => sz ≤ x) x.base) →
      lv_has ls 7 [(6, .int (nI (k + 1))), (0, .ref 126), (1, .ref 146), (2, .int 0), (3, .int (-9)), (4, .int (-9)), (5, .ref sz)] → W p launch0 e (rRm 5 180 2001 7003) s m args below meth c H locs C S Q (F0 m 21 ls []) := by
  intro d
  induction d with
  | zero =>
    intro k hdk H ls locs C S hC hS hz hR hse hkeep hL0 hl
    obtain rfl : k = 999 := by omega
    subst hC; subst hS
    refine lv_iload hx hb md_periods_21 (lv_at hl 0 rfl) ?_
    refine lv_aload_n hx hb md_periods_23 rfl (lv_at hl 2 rfl) ?_
    refine lv_iconst (v := (3)) hx hb md_periods_24 (by decide) ?_
    refine rg_iald hk hW hx hb (k := 49) (by decide +kernel) (v := .int 999) (rHB.at hR 9 rfl) 3 rfl (by decide) md_periods_25 ?_
    refine lv_icmp_gt (tgt := 70) hx hb md_periods_26 (by decide) (fun _ => ?_) (fun h => absurd ((by decide : (999 : Int32) < nI (999 + 1))) h)
    exact hend H ls locs (by omega) hkeep hL0 (rv_sub hl [3, 4, 5] rfl)
  | succ d ih =>
    intro k hdk H ls locs C S hC hS hz hR hse hkeep hL0 hl
    refine lv_iload hx hb md_periods_21 (lv_at hl 0 rfl) ?_
    refine lv_aload_n hx hb md_periods_23 rfl (lv_at hl 2 rfl) ?_
    refine lv_iconst (v := (3)) hx hb md_periods_24 (by decide) ?_
    refine rg_iald hk hW hx hb (k := 49) (by decide +kernel) (v := .int 999) (rHB.at hR 9 rfl) 3 rfl (by decide) md_periods_25 ?_
    refine lv_icmp_gt (tgt := 70) hx hb md_periods_26 (by decide) (fun h => absurd h (nI_nlt (a := 999) (b := k + 1) (by omega) (by omega))) (fun _ => ?_)
    refine lv_aload hx hb md_periods_29 (lv_at hl 6 rfl) ?_
    refine lv_aload_n hx hb md_periods_31 rfl (lv_at hl 2 rfl) ?_
    refine lv_iconst (v := (1)) hx hb md_periods_32 (by decide) ?_
    refine rg_iald hk hW hx hb (k := 49) (by decide +kernel) (v := .int 0) (rHB.at hR 9 rfl) 1 rfl (by decide) md_periods_33 ?_
    refine lv_iload hx hb md_periods_34 (lv_at hl 0 rfl) ?_
    refine rg_cs hk hW hx hb hml hl.1 (own := "TimeStoreModel") hown (rest := []) (c_wordsOf hk sz (sz + 2 + 2 * k) (nI (k + 1))) (⟨hz, hR, hse⟩) 3 rfl (by decide +kernel) ⟨by decide +kernel, by decide +kernel, by decide +kernel⟩ ⟨Nat.le_of_ble_eq_true rfl, Nat.le_of_ble_eq_true rfl⟩ (Nat.le_of_ble_eq_true rfl) ⟨by show C + 2 ≤ 2001; omega, by show S + 7 ≤ 7003; omega⟩ md_periods_36 rfl (fun v H1 L1 hp hL1 => ?_)
    obtain ⟨rfl, z1, k1, n1⟩ := hp
    refine W.eq (g2 := F0 m 39 ls [.ref (sz + 2 + 2 * k)]) rfl ?_
    refine rg_cv hk hW hx hb hml hl.1 (own := "TimeStoreModel") hown (rest := []) (c_size hk (sz + 2 + 2 * k) 0) qc_ArrayList.2.2 (by decide +kernel) n1 (n1) 0 rfl (by decide +kernel) ⟨by decide +kernel, by decide +kernel, by decide +kernel⟩ ⟨Nat.le_of_ble_eq_true rfl, Nat.le_of_ble_eq_true rfl⟩ (Nat.le_of_ble_eq_true rfl) ⟨by show C + 2 + 0 ≤ 2001; omega, by show S + 7 + 0 ≤ 7003; omega⟩ md_periods_39 rfl (fun v H1 L hp hL => ?_)
    obtain ⟨rfl, rfl⟩ := hp
    obtain rfl : L = [] := rg_nil hL
    refine W.eq (g2 := F0 m 42 ls [.int 0]) rfl ?_
    refine lv_if_ne (tgt := 48) hx hb md_periods_42 (by decide) (fun h => absurd (rfl) h) (fun _ => ?_)
    refine lv_goto (tgt := 64) hx hb md_periods_45 (by decide) ?_
    refine lv_iinc (v := ((nI (k + 1)) + Int32.ofInt (1))) (lv' := [(6, .int ((nI (k + 1)) + Int32.ofInt (1))), (0, .ref 126), (1, .ref 146), (2, .int 0), (3, .int (-9)), (4, .int (-9)), (5, .ref sz)]) hx hb md_periods_64 hl (k := 0) rfl rfl (by decide) rfl (fun ls hl => ?_)
    refine lv_goto (tgt := 21) hx hb md_periods_67 (by decide) ?_
    have e1 : nI (k + 1) + Int32.ofInt (1) = nI (k + 1 + 1) := nI_1 (k + 1)
    rw [e1] at hl
    refine ih (k + 1) (by omega) H1 ls _ _ _ (by omega) (by omega) (by omega) (hR.kept (by omega) (fun q h _ => k1 q (by omega))) (hse.kept (k1 _ (by omega))) (fun x h => (k1 x (by omega)).trans (hkeep x h)) (rg_lap (F := fun x : Nat => sz ≤ x) (rg_lap (F := fun x : Nat => sz ≤ x) hL0 (fun x h => Nat.le_trans (by omega) (hL1 x h))) (by simp)) hl
set_option maxHeartbeats 1000000 in
set_option maxRecDepth 100000 in
theorem c_periods {t0 : State} (hk : rK t0) (sz : Nat) : RM t0 my_periods mb_periods 7 (some (.array .int)) 5 180 2001 7003 [.ref 126, .ref 146] (fun H => H.size = sz ∧ rHB H) (fun H v H1 => ∃ h : Nat, v = some (.ref h) ∧ rI H1 h 3 ∧ H1.size = sz + 2001 ∧ ∀ x, x < sz → H1[x]? = H[x]?) (fun x => sz ≤ x) := by
  refine rg_body (by decide +kernel) (Nat.le_of_ble_eq_true rfl) (fun p e s m below meth c ls hx hb hml hr hlocks hown hname hW hB hl => ?_)
  have hl : lv_has ls 7 [(0, .ref 126), (1, .ref 146)] := hl
  obtain ⟨hsz, hR⟩ := hB
  subst hsz
  have h148 := hR.1
  refine lv_iconst (v := (0)) hx hb md_periods_0 (by decide) ?_
  refine lv_istore_n (lv' := [(2, .int (0)), (0, .ref 126), (1, .ref 146)]) hx hb md_periods_1 rfl hl (by decide) rfl (fun ls hl => ?_)
  refine lv_bipush (v := (-9)) hx hb md_periods_2 (by decide) ?_
  refine lv_istore_n (lv' := [(3, .int (-9)), (2, .int (0)), (0, .ref 126), (1, .ref 146)]) hx hb md_periods_4 rfl hl (by decide) rfl (fun ls hl => ?_)
  refine lv_bipush (v := (-9)) hx hb md_periods_5 (by decide) ?_
  refine lv_istore (lv' := [(4, .int (-9)), (3, .int (-9)), (2, .int (0)), (0, .ref 126), (1, .ref 146)]) hx hb md_periods_7 hl (by decide) rfl (fun ls hl => ?_)
  refine lv_aload_n hx hb md_periods_9 rfl (lv_at hl 3 rfl) ?_
  refine lv_aload_n hx hb md_periods_10 rfl (lv_at hl 4 rfl) ?_
  refine rg_cv hk hW hx hb hml hl.1 (own := "TimeStoreModel") hown (rest := []) (c_seen hk s.heap.size) qc_TimeStoreModel.2.2 (by decide +kernel) (rHB.at hR 6 rfl) (⟨rfl, hR⟩) 1 rfl (by decide +kernel) ⟨by decide +kernel, by decide +kernel, by decide +kernel⟩ ⟨Nat.le_of_ble_eq_true rfl, Nat.le_of_ble_eq_true rfl⟩ (Nat.le_of_ble_eq_true rfl) ⟨Nat.le_of_ble_eq_true rfl, Nat.le_of_ble_eq_true rfl⟩ md_periods_11 rfl (fun v H1 L1 hp hL1 => ?_)
  obtain ⟨rfl, z1, k1, n1⟩ := hp
  refine W.eq (g2 := F0 m 14 ls [.ref s.heap.size]) rfl ?_
  have hR1 : rHB H1 := hR.kept (by omega) (fun q h _ => k1 q h)
  refine lv_astore (lv' := [(5, .ref s.heap.size), (4, .int (-9)), (3, .int (-9)), (2, .int (0)), (0, .ref 126), (1, .ref 146)]) hx hb md_periods_14 hl (by decide) rfl (fun ls hl => ?_)
  refine lv_aload_n hx hb md_periods_16 rfl (lv_at hl 5 rfl) ?_
  refine lv_iconst (v := (2)) hx hb md_periods_17 (by decide) ?_
  refine rg_iald hk hW hx hb (k := 49) (by decide +kernel) (v := .int 1) (rHB.at hR1 9 rfl) 2 rfl (by decide) md_periods_18 ?_
  refine lv_istore (lv' := [(6, .int 1), (5, .ref s.heap.size), (4, .int (-9)), (3, .int (-9)), (2, .int (0)), (0, .ref 126), (1, .ref 146)]) hx hb md_periods_19 hl (by decide) rfl (fun ls hl => ?_)
  refine l_per hk hx hb hml hown hW s.heap.size h148 (fun H5 ls locs z5 k5 hL5 hl => ?_) 999 0 rfl H1 ls _ _ _ rfl rfl z1 hR1 n1 k1 (rg_lap (F := fun x : Nat => s.heap.size ≤ x) (by simp) hL1) (rv_sub hl [0, 5, 6, 4, 3, 2, 1] rfl)
  refine lv_iconst (v := (3)) hx hb md_periods_70 (by decide) ?_
  refine rg_newa hk hW hx hb (by decide +kernel) (i := 3) (n := 3) (by decide) (by decide) (by decide) (Nat.le_of_ble_eq_true rfl) (Nat.le_of_ble_eq_true rfl) md_periods_71 (fun H6 z6 k6 n6 => ?_)
  refine lv_dup hx hb md_periods_73 rfl ?_
  refine lv_iconst (v := (0)) hx hb md_periods_74 (by decide) ?_
  refine lv_iload_n hx hb md_periods_75 rfl (lv_at hl 0 rfl) ?_
  refine rg_iast hk hW hx hb (by decide +kernel) n6 (by decide) md_periods_76 (fun H7 y7 z7 k7 n7 => ?_)
  refine lv_dup hx hb md_periods_77 rfl ?_
  refine lv_iconst (v := (1)) hx hb md_periods_78 (by decide) ?_
  refine lv_iload_n hx hb md_periods_79 rfl (lv_at hl 1 rfl) ?_
  refine rg_iast hk hW hx hb (by decide +kernel) n7 (by decide) md_periods_80 (fun H8 y8 z8 k8 n8 => ?_)
  refine lv_dup hx hb md_periods_81 rfl ?_
  refine lv_iconst (v := (2)) hx hb md_periods_82 (by decide) ?_
  refine lv_iload hx hb md_periods_83 (lv_at hl 2 rfl) ?_
  refine rg_iast hk hW hx hb (by decide +kernel) n8 (by decide) md_periods_85 (fun H9 y9 z9 k9 n9 => ?_)
  have hA : ∀ x, x < H5.size → H9[x]? = H5[x]? := fun x hx => (k9 x (by omega)).trans ((k8 x (by omega)).trans ((k7 x (by omega)).trans (k6 x hx)))
  exact W.aret (v := .ref H5.size) hx hb hr (Or.inr ⟨_, rfl⟩) (Or.inr ⟨_, rfl⟩) (fun t ht _ => rg_q (by rw [ht]; exact ⟨H5.size, rfl, n9, by omega, fun x hx => (hA x (by omega)).trans (k5 x hx)⟩)) (rg_lap (F := fun x : Nat => s.heap.size ≤ x) (rg_lap (F := fun x : Nat => s.heap.size ≤ x) (rg_lap (F := fun x : Nat => s.heap.size ≤ x) hL5 (rg_lone (F := fun x : Nat => s.heap.size ≤ x) (by omega))) (rg_lone (F := fun x : Nat => s.heap.size ≤ x) (by omega))) (rg_lone (F := fun x : Nat => s.heap.size ≤ x) (by omega))) md_periods_86
