/-! CONTRACTS, the reference's rows -/
set_option maxHeartbeats 1000000 in
set_option maxRecDepth 100000 in
theorem c_seen {t0 : State} (hk : rK t0) (sz : Nat) : RM t0 my_seen mb_seen 5 (some (.object "java/util/ArrayList")) 4 150 2 7 [.ref 126, .ref 146] (fun H => H.size = sz ∧ rHB H) (fun H v H1 => v = some (.ref sz) ∧ H1.size = sz + 2 ∧ (∀ x, x < sz → H1[x]? = H[x]?) ∧ rc_at H1 sz 47 3 [(0, .int 0), (2, .int 0)]) (fun x => sz ≤ x) := by
  refine rg_body (by decide +kernel) (Nat.le_of_ble_eq_true rfl) (fun p e s m below meth c ls hx hb hml hr hlocks hown hname hW hB hl => ?_)
  have hl : lv_has ls 5 [(0, .ref 126), (1, .ref 146)] := hl
  obtain ⟨hsz, hR⟩ := hB
  subst hsz
  have h148 := hR.1
  refine rg_new hk hW hx hb (own := "TimeStoreModel") hown (n := 3) qc_ArrayList (by decide +kernel) (by decide +kernel) (by decide +kernel) (by decide +kernel) rfl (vs := [(0, .int 0), (1, .null), (2, .int 0)]) (by decide +kernel) (Nat.le_of_ble_eq_true rfl) (Nat.le_of_ble_eq_true rfl) md_seen_0 (fun H1 z1 k1 n1 => ?_)
  have hR1 : rHB H1 := hR.kept (by omega) (fun q h _ => k1 q h)
  refine lv_dup hx hb md_seen_3 rfl ?_
  refine rg_ci hk hW hx hb hml hl.1 (own := "TimeStoreModel") hown (rest := [.ref s.heap.size]) (c_ali hk s.heap.size) (⟨n1, hR1.2.2⟩) rfl 0 rfl (by decide +kernel) ⟨by decide +kernel, by decide +kernel, by decide +kernel⟩ ⟨Nat.le_of_ble_eq_true rfl, Nat.le_of_ble_eq_true rfl⟩ (Nat.le_of_ble_eq_true rfl) ⟨Nat.le_of_ble_eq_true rfl, Nat.le_of_ble_eq_true rfl⟩ md_seen_4 rfl (fun v H2 L2 hp hL2 => ?_)
  obtain ⟨rfl, z2, k2, n2⟩ := hp
  refine W.eq (g2 := F0 m 7 ls [.ref s.heap.size]) rfl ?_
  have hR2 : rHB H2 := hR.kept (by omega) (fun q h _ => (k2 q (by omega)).trans (k1 q h))
  refine lv_astore_n (lv' := [(2, .ref s.heap.size), (0, .ref 126), (1, .ref 146)]) hx hb md_seen_7 rfl hl (by decide) rfl (fun ls hl => ?_)
  refine lv_aload_n hx hb md_seen_8 rfl (lv_at hl 1 rfl) ?_
  refine lv_aload_n hx hb md_seen_9 rfl (lv_at hl 2 rfl) ?_
  refine lv_iconst (v := (0)) hx hb md_seen_10 (by decide) ?_
  refine rg_iald hk hW hx hb (k := 49) (by decide +kernel) (v := .int 0) (rHB.at hR2 9 rfl) 0 rfl (by decide) md_seen_11 ?_
  refine rg_cv hk hW hx hb hml hl.1 (own := "TimeStoreModel") hown (rest := []) (c_of hk) qc_TimeStoreModel.2.2 (by decide +kernel) (rHB.at hR2 6 rfl) (hR2) 1 rfl (by decide +kernel) ⟨by decide +kernel, by decide +kernel, by decide +kernel⟩ ⟨Nat.le_of_ble_eq_true rfl, Nat.le_of_ble_eq_true rfl⟩ (Nat.le_of_ble_eq_true rfl) ⟨Nat.le_of_ble_eq_true rfl, Nat.le_of_ble_eq_true rfl⟩ md_seen_12 rfl (fun v H1 L hp hL => ?_)
  obtain ⟨rfl, rfl⟩ := hp
  obtain rfl : L = [] := rg_nil hL
  refine W.eq (g2 := F0 m 15 ls [.ref 127]) rfl ?_
  refine rg_cv hk hW hx hb hml hl.1 (own := "TimeStoreModel") hown (rest := []) (c_iter hk 127 1 (s.heap.size + 1)) qc_ArrayList.2.2 (by decide +kernel) (rHB.at hR2 10 rfl) (⟨z2.trans z1, (rHB.at hR2 10 rfl).sub [0] rfl⟩) 0 rfl (by decide +kernel) ⟨by decide +kernel, by decide +kernel, by decide +kernel⟩ ⟨Nat.le_of_ble_eq_true rfl, Nat.le_of_ble_eq_true rfl⟩ (Nat.le_of_ble_eq_true rfl) ⟨Nat.le_of_ble_eq_true rfl, Nat.le_of_ble_eq_true rfl⟩ md_seen_15 rfl (fun v H3 L3 hp hL3 => ?_)
  obtain ⟨rfl, z3, k3, n3⟩ := hp
  refine W.eq (g2 := F0 m 18 ls [.ref (s.heap.size + 1)]) rfl ?_
  have hR3 : rHB H3 := hR.kept (by omega) (fun q h _ => (k3 q (by omega)).trans ((k2 q (by omega)).trans (k1 q h)))
  refine lv_astore_n (lv' := [(3, .ref (s.heap.size + 1)), (2, .ref s.heap.size), (0, .ref 126), (1, .ref 146)]) hx hb md_seen_18 rfl hl (by decide) rfl (fun ls hl => ?_)
  refine lv_aload_n hx hb md_seen_19 rfl (lv_at hl 0 rfl) ?_
  refine rg_cf hk hW hx hb hml hl.1 (own := "TimeStoreModel") hown (x := my_i_hasNext) (rest := []) (c_hasNext1 hk (s.heap.size + 1) 127 0 1 (by decide)) qc_ArrayListItr.2.2 (by decide +kernel) n3 (⟨n3.sub [3, 2] rfl, (rHB.at hR3 10 rfl).sub [2] rfl⟩) 0 rfl (by decide +kernel) (by decide +kernel) ⟨by decide +kernel, by decide +kernel, by decide +kernel⟩ ⟨Nat.le_of_ble_eq_true rfl, Nat.le_of_ble_eq_true rfl⟩ (Nat.le_of_ble_eq_true rfl) ⟨Nat.le_of_ble_eq_true rfl, Nat.le_of_ble_eq_true rfl⟩ md_seen_20 rfl (fun v H1 L hp hL => ?_)
  obtain ⟨rfl, rfl⟩ := hp
  obtain rfl : L = [] := rg_nil hL
  refine W.eq (g2 := F0 m 25 ls [.int 1]) rfl ?_
  refine lv_if_eq (tgt := 75) hx hb md_seen_25 (by decide) (fun h => absurd h (by decide)) (fun _ => ?_)
  refine lv_aload_n hx hb md_seen_28 rfl (lv_at hl 0 rfl) ?_
  refine rg_cf hk hW hx hb hml hl.1 (own := "TimeStoreModel") hown (x := my_i_next) (rest := []) (c_next hk (s.heap.size + 1)) qc_ArrayListItr.2.2 (by decide +kernel) n3 (⟨hR3, n3, by omega⟩) 0 rfl (by decide +kernel) (by decide +kernel) ⟨by decide +kernel, by decide +kernel, by decide +kernel⟩ ⟨Nat.le_of_ble_eq_true rfl, Nat.le_of_ble_eq_true rfl⟩ (Nat.le_of_ble_eq_true rfl) ⟨Nat.le_of_ble_eq_true rfl, Nat.le_of_ble_eq_true rfl⟩ md_seen_29 rfl (fun v H4 L4 hp hL4 => ?_)
  obtain ⟨rfl, z4, k4, n4⟩ := hp
  refine W.eq (g2 := F0 m 34 ls [.ref 142]) rfl ?_
  have hR4 : rHB H4 := hR.kept (by omega) (fun q h _ => (k4 q (by omega)).trans ((k3 q (by omega)).trans ((k2 q (by omega)).trans (k1 q h))))
  refine rg_cast hk hW hx hb (own := "TimeStoreModel") hown (nm := "[I") (by decide +kernel) (rHB.at hR4 12 rfl) (rg_I hk hW) md_seen_34 ?_
  refine lv_astore (lv' := [(4, .ref 142), (3, .ref (s.heap.size + 1)), (2, .ref s.heap.size), (0, .ref 126), (1, .ref 146)]) hx hb md_seen_37 hl (by decide) rfl (fun ls hl => ?_)
  refine lv_aload hx hb md_seen_39 (lv_at hl 0 rfl) ?_
  refine lv_iconst (v := (1)) hx hb md_seen_41 (by decide) ?_
  refine rg_iald hk hW hx hb (k := 49) (by decide +kernel) (v := .int 0) (rHB.at hR4 12 rfl) 1 rfl (by decide) md_seen_42 ?_
  refine lv_aload_n hx hb md_seen_43 rfl (lv_at hl 4 rfl) ?_
  refine lv_iconst (v := (1)) hx hb md_seen_44 (by decide) ?_
  refine rg_iald hk hW hx hb (k := 49) (by decide +kernel) (v := .int 0) (rHB.at hR4 9 rfl) 1 rfl (by decide) md_seen_45 ?_
  refine lv_icmp_ne (tgt := 72) hx hb md_seen_46 (by decide) (fun h => absurd (by decide) h) (fun _ => ?_)
  refine lv_aload hx hb md_seen_49 (lv_at hl 0 rfl) ?_
  refine lv_iconst (v := (2)) hx hb md_seen_51 (by decide) ?_
  refine rg_iald hk hW hx hb (k := 49) (by decide +kernel) (v := .int 0) (rHB.at hR4 12 rfl) 2 rfl (by decide) md_seen_52 ?_
  refine lv_aload_n hx hb md_seen_53 rfl (lv_at hl 4 rfl) ?_
  refine lv_iconst (v := (2)) hx hb md_seen_54 (by decide) ?_
  refine rg_iald hk hW hx hb (k := 49) (by decide +kernel) (v := .int 1) (rHB.at hR4 9 rfl) 2 rfl (by decide) md_seen_55 ?_
  refine lv_aload_n hx hb md_seen_56 rfl (lv_at hl 4 rfl) ?_
  refine lv_iconst (v := (3)) hx hb md_seen_57 (by decide) ?_
  refine rg_iald hk hW hx hb (k := 49) (by decide +kernel) (v := .int 999) (rHB.at hR4 9 rfl) 3 rfl (by decide) md_seen_58 ?_
  refine rg_cs hk hW hx hb hml hl.1 (own := "TimeStoreModel") hown (rest := []) (c_isIn0 hk 0 1 999 (by decide)) (trivial) 3 rfl (by decide +kernel) ⟨by decide +kernel, by decide +kernel, by decide +kernel⟩ ⟨Nat.le_of_ble_eq_true rfl, Nat.le_of_ble_eq_true rfl⟩ (Nat.le_of_ble_eq_true rfl) ⟨Nat.le_of_ble_eq_true rfl, Nat.le_of_ble_eq_true rfl⟩ md_seen_59 rfl (fun v H1 L hp hL => ?_)
  obtain ⟨rfl, rfl⟩ := hp
  obtain rfl : L = [] := rg_nil hL
  refine W.eq (g2 := F0 m 62 ls [.int 0]) rfl ?_
  refine lv_if_eq (tgt := 72) hx hb md_seen_62 (by decide) (fun _ => ?_) (fun h => absurd (rfl) h)
  refine lv_goto (tgt := 19) hx hb md_seen_72 (by decide) ?_
  refine lv_aload_n hx hb md_seen_19 rfl (lv_at hl 1 rfl) ?_
  refine rg_cf hk hW hx hb hml hl.1 (own := "TimeStoreModel") hown (x := my_i_hasNext) (rest := []) (c_hasNext0 hk (s.heap.size + 1) 127 (0 + 1) 1 (by decide)) qc_ArrayListItr.2.2 (by decide +kernel) n4 (⟨n4, (rHB.at hR4 10 rfl).sub [2] rfl⟩) 0 rfl (by decide +kernel) (by decide +kernel) ⟨by decide +kernel, by decide +kernel, by decide +kernel⟩ ⟨Nat.le_of_ble_eq_true rfl, Nat.le_of_ble_eq_true rfl⟩ (Nat.le_of_ble_eq_true rfl) ⟨Nat.le_of_ble_eq_true rfl, Nat.le_of_ble_eq_true rfl⟩ md_seen_20 rfl (fun v H1 L hp hL => ?_)
  obtain ⟨rfl, rfl⟩ := hp
  obtain rfl : L = [] := rg_nil hL
  refine W.eq (g2 := F0 m 25 ls [.int 0]) rfl ?_
  refine lv_if_eq (tgt := 75) hx hb md_seen_25 (by decide) (fun _ => ?_) (fun h => absurd (rfl) h)
  refine lv_aload_n hx hb md_seen_75 rfl (lv_at hl 2 rfl) ?_
  exact W.aret (v := .ref s.heap.size) hx hb hr (Or.inl ⟨_, rfl⟩) (Or.inr ⟨_, rfl⟩) (fun t ht _ => rg_q (by rw [ht]; exact ⟨rfl, z4.trans z3, fun x hx => (k4 x (by omega)).trans ((k3 x (by omega)).trans ((k2 x (by omega)).trans (k1 x hx))), ((n2.kept (k3 _ (by omega))).kept (k4 _ (by omega))).sub [1, 2] rfl⟩)) (rg_lap (F := fun x : Nat => s.heap.size ≤ x) (rg_lap (F := fun x : Nat => s.heap.size ≤ x) (rg_lap (F := fun x : Nat => s.heap.size ≤ x) (rg_lap (F := fun x : Nat => s.heap.size ≤ x) (rg_lap (F := fun x : Nat => s.heap.size ≤ x) (rg_lap (F := fun x : Nat => s.heap.size ≤ x) (rg_lap (F := fun x : Nat => s.heap.size ≤ x) (by simp) (fun x h => Nat.le_of_eq (Eq.symm (hL2 x h)))) (by simp)) (fun x h => Nat.le_of_succ_le (hL3 x h))) (by simp)) (fun x h => Nat.le_of_succ_le (Nat.le_of_eq (Eq.symm (hL4 x h))))) (by simp)) (by simp)) md_seen_76
set_option maxHeartbeats 1000000 in
set_option maxRecDepth 100000 in
theorem c_wordsOf {t0 : State} (hk : rK t0) (r sz : Nat) (P : Int32) : RM t0 my_wordsOf mb_wordsOf 6 (some (.object "java/util/ArrayList")) 4 150 2 7 [.ref r, .int 0, .int P] (fun H => H.size = sz ∧ rHB H ∧ rc_at H r 47 3 [(0, .int 0), (2, .int 0)]) (fun H v H1 => v = some (.ref sz) ∧ H1.size = sz + 2 ∧ (∀ x, x < sz → H1[x]? = H[x]?) ∧ rc_at H1 sz 47 3 [(2, .int 0)]) (fun x => sz ≤ x) := by
  refine rg_body (by decide +kernel) (Nat.le_of_ble_eq_true rfl) (fun p e s m below meth c ls hx hb hml hr hlocks hown hname hW hB hl => ?_)
  have hl : lv_has ls 6 [(0, .ref r), (1, .int 0), (2, .int P)] := hl
  obtain ⟨hsz, hR, hC⟩ := hB
  subst hsz
  have h148 := hR.1
  have hlt := hC.lt
  refine rg_new hk hW hx hb (own := "TimeStoreModel") hown (n := 3) qc_ArrayList (by decide +kernel) (by decide +kernel) (by decide +kernel) (by decide +kernel) rfl (vs := [(0, .int 0), (1, .null), (2, .int 0)]) (by decide +kernel) (Nat.le_of_ble_eq_true rfl) (Nat.le_of_ble_eq_true rfl) md_wordsOf_0 (fun H1 z1 k1 n1 => ?_)
  have hR1 : rHB H1 := hR.kept (by omega) (fun q h _ => k1 q h)
  refine lv_dup hx hb md_wordsOf_3 rfl ?_
  refine rg_ci hk hW hx hb hml hl.1 (own := "TimeStoreModel") hown (rest := [.ref s.heap.size]) (c_ali hk s.heap.size) (⟨n1, hR1.2.2⟩) rfl 0 rfl (by decide +kernel) ⟨by decide +kernel, by decide +kernel, by decide +kernel⟩ ⟨Nat.le_of_ble_eq_true rfl, Nat.le_of_ble_eq_true rfl⟩ (Nat.le_of_ble_eq_true rfl) ⟨Nat.le_of_ble_eq_true rfl, Nat.le_of_ble_eq_true rfl⟩ md_wordsOf_4 rfl (fun v H2 L2 hp hL2 => ?_)
  obtain ⟨rfl, z2, k2, n2⟩ := hp
  refine W.eq (g2 := F0 m 7 ls [.ref s.heap.size]) rfl ?_
  have hR2 : rHB H2 := hR.kept (by omega) (fun q h _ => (k2 q (by omega)).trans (k1 q h))
  have hC2 := (hC.kept (k1 _ hlt)).kept (k2 _ (by omega))
  refine lv_astore_n (lv' := [(3, .ref s.heap.size), (0, .ref r), (1, .int 0), (2, .int P)]) hx hb md_wordsOf_7 rfl hl (by decide) rfl (fun ls hl => ?_)
  refine lv_aload_n hx hb md_wordsOf_8 rfl (lv_at hl 1 rfl) ?_
  refine rg_cv hk hW hx hb hml hl.1 (own := "TimeStoreModel") hown (rest := []) (c_iter hk r 0 (s.heap.size + 1)) qc_ArrayList.2.2 (by decide +kernel) hC2 (⟨z2.trans z1, hC2.sub [0] rfl⟩) 0 rfl (by decide +kernel) ⟨by decide +kernel, by decide +kernel, by decide +kernel⟩ ⟨Nat.le_of_ble_eq_true rfl, Nat.le_of_ble_eq_true rfl⟩ (Nat.le_of_ble_eq_true rfl) ⟨Nat.le_of_ble_eq_true rfl, Nat.le_of_ble_eq_true rfl⟩ md_wordsOf_9 rfl (fun v H3 L3 hp hL3 => ?_)
  obtain ⟨rfl, z3, k3, n3⟩ := hp
  refine W.eq (g2 := F0 m 12 ls [.ref (s.heap.size + 1)]) rfl ?_
  have hR3 : rHB H3 := hR.kept (by omega) (fun q h _ => (k3 q (by omega)).trans ((k2 q (by omega)).trans (k1 q h)))
  have hC3 := hC2.kept (k3 _ (by omega))
  refine lv_astore (lv' := [(4, .ref (s.heap.size + 1)), (3, .ref s.heap.size), (0, .ref r), (1, .int 0), (2, .int P)]) hx hb md_wordsOf_12 hl (by decide) rfl (fun ls hl => ?_)
  refine lv_aload hx hb md_wordsOf_14 (lv_at hl 0 rfl) ?_
  refine rg_cf hk hW hx hb hml hl.1 (own := "TimeStoreModel") hown (x := my_i_hasNext) (rest := []) (c_hasNext0 hk (s.heap.size + 1) r 0 0 rfl) qc_ArrayListItr.2.2 (by decide +kernel) n3 (⟨n3.sub [3, 2] rfl, hC3.sub [1] rfl⟩) 0 rfl (by decide +kernel) (by decide +kernel) ⟨by decide +kernel, by decide +kernel, by decide +kernel⟩ ⟨Nat.le_of_ble_eq_true rfl, Nat.le_of_ble_eq_true rfl⟩ (Nat.le_of_ble_eq_true rfl) ⟨Nat.le_of_ble_eq_true rfl, Nat.le_of_ble_eq_true rfl⟩ md_wordsOf_16 rfl (fun v H1 L hp hL => ?_)
  obtain ⟨rfl, rfl⟩ := hp
  obtain rfl : L = [] := rg_nil hL
  refine W.eq (g2 := F0 m 21 ls [.int 0]) rfl ?_
  refine lv_if_eq (tgt := 62) hx hb md_wordsOf_21 (by decide) (fun _ => ?_) (fun h => absurd (rfl) h)
  refine lv_aload_n hx hb md_wordsOf_62 rfl (lv_at hl 1 rfl) ?_
  exact W.aret (v := .ref s.heap.size) hx hb hr (Or.inl ⟨_, rfl⟩) (Or.inr ⟨_, rfl⟩) (fun t ht _ => rg_q (by rw [ht]; exact ⟨rfl, z3, fun x hx => (k3 x (by omega)).trans ((k2 x (by omega)).trans (k1 x hx)), (n2.kept (k3 _ (by omega))).sub [2] rfl⟩)) (rg_lap (F := fun x : Nat => s.heap.size ≤ x) (rg_lap (F := fun x : Nat => s.heap.size ≤ x) (rg_lap (F := fun x : Nat => s.heap.size ≤ x) (by simp) (fun x h => Nat.le_of_eq (Eq.symm (hL2 x h)))) (fun x h => Nat.le_of_succ_le (hL3 x h))) (by simp)) md_wordsOf_63
