/-! CONTRACTS, the leaves -/
theorem rg_q {post : Heap → Option Value → Heap → Prop} {a : Array Value} {st t : State} {v : Option Value} (h : post st.heap v t.heap) : rQ post a st (.returned v) t := ⟨v, rfl, h⟩
theorem rg_nil {L : List Loc} (h : ∀ x ∈ L, (fun _ : Addr => False) x.base) : L = [] := by
  cases L with
  | nil => rfl
  | cons a l => exact (h a List.mem_cons_self).elim
set_option maxHeartbeats 1000000 in
set_option maxRecDepth 100000 in
theorem c_isIn1 {t0 : State} (hk : rK t0) (v lo hi : Int32) (h1 : ¬ v < lo) (h2 : ¬ hi < v) : RM t0 my_isIn mb_isIn 3 (some .boolean) 0 0 0 0 [.int v, .int lo, .int hi] (fun _ => True) (fun H v H1 => v = some (.int 1) ∧ H1 = H) (fun _ => False) := by
  refine rg_body (by decide +kernel) (Nat.le_of_ble_eq_true rfl) (fun p e s m below meth c ls hx hb hml hr hlocks hown hname hW hB hl => ?_)
  have hl : lv_has ls 3 [(0, .int v), (1, .int lo), (2, .int hi)] := hl
  refine lv_iload_n hx hb md_isIn_0 rfl (lv_at hl 0 rfl) ?_
  refine lv_iload_n hx hb md_isIn_1 rfl (lv_at hl 1 rfl) ?_
  refine lv_icmp_lt (tgt := 14) hx hb md_isIn_2 (by decide) (fun h => absurd h (h1)) (fun _ => ?_)
  refine lv_iload_n hx hb md_isIn_5 rfl (lv_at hl 0 rfl) ?_
  refine lv_iload_n hx hb md_isIn_6 rfl (lv_at hl 2 rfl) ?_
  refine lv_icmp_gt (tgt := 14) hx hb md_isIn_7 (by decide) (fun h => absurd h (h2)) (fun _ => ?_)
  refine lv_iconst (v := (1)) hx hb md_isIn_10 (by decide) ?_
  refine lv_goto (tgt := 15) hx hb md_isIn_11 (by decide) ?_
  exact W.zret (v := 1) hx hb hr narrow_b1 (fun t ht _ => rg_q (by rw [ht]; exact ⟨rfl, rfl⟩)) (by simp) md_isIn_15
set_option maxHeartbeats 1000000 in
set_option maxRecDepth 100000 in
theorem c_isIn0 {t0 : State} (hk : rK t0) (v lo hi : Int32) (h1 : v < lo) : RM t0 my_isIn mb_isIn 3 (some .boolean) 0 0 0 0 [.int v, .int lo, .int hi] (fun _ => True) (fun H v H1 => v = some (.int 0) ∧ H1 = H) (fun _ => False) := by
  refine rg_body (by decide +kernel) (Nat.le_of_ble_eq_true rfl) (fun p e s m below meth c ls hx hb hml hr hlocks hown hname hW hB hl => ?_)
  have hl : lv_has ls 3 [(0, .int v), (1, .int lo), (2, .int hi)] := hl
  refine lv_iload_n hx hb md_isIn_0 rfl (lv_at hl 0 rfl) ?_
  refine lv_iload_n hx hb md_isIn_1 rfl (lv_at hl 1 rfl) ?_
  refine lv_icmp_lt (tgt := 14) hx hb md_isIn_2 (by decide) (fun _ => ?_) (fun h => absurd (h1) h)
  refine lv_iconst (v := (0)) hx hb md_isIn_14 (by decide) ?_
  exact W.zret (v := 0) hx hb hr narrow_b0 (fun t ht _ => rg_q (by rw [ht]; exact ⟨rfl, rfl⟩)) (by simp) md_isIn_15
set_option maxHeartbeats 1000000 in
set_option maxRecDepth 100000 in
theorem c_refuse {t0 : State} (hk : rK t0) (k : Int32) : RM t0 my_refuse mb_refuse 3 (some .boolean) 0 0 0 0 [.ref 126, .int 0, .int k] (rHB) (fun H v H1 => v = some (.int 0) ∧ H1 = H) (fun _ => False) := by
  refine rg_body (by decide +kernel) (Nat.le_of_ble_eq_true rfl) (fun p e s m below meth c ls hx hb hml hr hlocks hown hname hW hB hl => ?_)
  have hl : lv_has ls 3 [(0, .ref 126), (1, .int 0), (2, .int k)] := hl
  refine lv_iload_n hx hb md_refuse_0 rfl (lv_at hl 1 rfl) ?_
  refine lv_if_eq (tgt := 16) hx hb md_refuse_1 (by decide) (fun _ => ?_) (fun h => absurd (rfl) h)
  refine lv_aload_n hx hb md_refuse_16 rfl (lv_at hl 0 rfl) ?_
  refine rg_get hk hW hx hb (own := "TimeStoreModel")  hown qf_TimeStoreModel_thrown (by decide +kernel) (by decide +kernel) (v := .int 0) (rHB.at hB 6 rfl) 0 rfl md_refuse_17 ?_
  refine lv_if_le (tgt := 27) hx hb md_refuse_20 (by decide) (fun _ => ?_) (fun h => absurd (by decide) h)
  refine lv_iconst (v := (0)) hx hb md_refuse_27 (by decide) ?_
  exact W.zret (v := 0) hx hb hr narrow_b0 (fun t ht _ => rg_q (by rw [ht]; exact ⟨rfl, rfl⟩)) (by simp) md_refuse_28
set_option maxHeartbeats 1000000 in
set_option maxRecDepth 100000 in
theorem c_start {t0 : State} (hk : rK t0) (k : Int32) : RM t0 my_start mb_start 3 (some .boolean) 2 30 0 0 [.ref 126, .int 0, .int k] (rHB) (fun H v H1 => v = some (.int 0) ∧ H1 = H) (fun q => q = 126) := by
  refine rg_body (by decide +kernel) (Nat.le_of_ble_eq_true rfl) (fun p e s m below meth c ls hx hb hml hr hlocks hown hname hW hB hl => ?_)
  have hl : lv_has ls 3 [(0, .ref 126), (1, .int 0), (2, .int k)] := hl
  refine lv_aload_n hx hb md_start_0 rfl (lv_at hl 0 rfl) ?_
  refine lv_iconst (v := (0)) hx hb md_start_1 (by decide) ?_
  refine rg_puts hk hW hx hb (own := "TimeStoreModel") hown qf_TimeStoreModel_thrown (by decide +kernel) (by decide +kernel) qc_TimeStoreModel (by decide +kernel) rfl rfl rfl (rHB.at hB 6 rfl) 0 rfl rfl rfl md_start_2 ?_
  refine lv_aload_n hx hb md_start_5 rfl (lv_at hl 0 rfl) ?_
  refine lv_iload_n hx hb md_start_6 rfl (lv_at hl 1 rfl) ?_
  refine lv_iload_n hx hb md_start_7 rfl (lv_at hl 2 rfl) ?_
  refine rg_cv hk hW hx hb hml hl.1 (own := "TimeStoreModel") hown (rest := []) (c_refuse hk k) qc_TimeStoreModel.2.2 (by decide +kernel) (rHB.at hB 6 rfl) (hB) 2 rfl (by decide +kernel) ⟨by decide +kernel, by decide +kernel, by decide +kernel⟩ ⟨Nat.le_of_ble_eq_true rfl, Nat.le_of_ble_eq_true rfl⟩ (Nat.le_of_ble_eq_true rfl) ⟨Nat.le_of_ble_eq_true rfl, Nat.le_of_ble_eq_true rfl⟩ md_start_8 rfl (fun v H1 L hp hL => ?_)
  obtain ⟨rfl, rfl⟩ := hp
  obtain rfl : L = [] := rg_nil hL
  refine W.eq (g2 := F0 m 11 ls [.int 0]) rfl ?_
  exact W.zret (v := 0) hx hb hr narrow_b0 (fun t ht _ => rg_q (by rw [ht]; exact ⟨rfl, rfl⟩)) (by simp) md_start_11
set_option maxHeartbeats 1000000 in
set_option maxRecDepth 100000 in
theorem c_size {t0 : State} (hk : rK t0) (a : Nat) (n : Int32) : RM t0 my_size mb_size 1 (some .int) 0 0 0 0 [.ref a] (fun H => rc_at H a 47 3 [(2, .int n)]) (fun H v H1 => v = some (.int n) ∧ H1 = H) (fun _ => False) := by
  refine rg_body (by decide +kernel) (Nat.le_of_ble_eq_true rfl) (fun p e s m below meth c ls hx hb hml hr hlocks hown hname hW hB hl => ?_)
  have hl : lv_has ls 1 [(0, .ref a)] := hl
  refine lv_aload_n hx hb md_size_0 rfl (lv_at hl 0 rfl) ?_
  refine rg_get hk hW hx hb (own := "java/util/ArrayList")  hown qf_ArrayList_size (by decide +kernel) (by decide +kernel) (v := .int n) hB 0 rfl md_size_1 ?_
  exact W.iret (v := n) hx hb hr (fun t ht _ => rg_q (by rw [ht]; exact ⟨rfl, rfl⟩)) (by simp) md_size_4
set_option maxHeartbeats 1000000 in
set_option maxRecDepth 100000 in
theorem c_isNoWin {t0 : State} (hk : rK t0) : RM t0 my_isNoWin mb_isNoWin 2 (some .boolean) 2 30 0 0 [.ref 126, .int 0] (rHB) (fun H v H1 => v = some (.int 0) ∧ H1 = H) (fun _ => False) := by
  refine rg_body (by decide +kernel) (Nat.le_of_ble_eq_true rfl) (fun p e s m below meth c ls hx hb hml hr hlocks hown hname hW hB hl => ?_)
  have hl : lv_has ls 2 [(0, .ref 126), (1, .int 0)] := hl
  refine lv_iload_n hx hb md_isNoWin_0 rfl (lv_at hl 1 rfl) ?_
  refine lv_iconst (v := (0)) hx hb md_isNoWin_1 (by decide) ?_
  refine lv_aload_n hx hb md_isNoWin_2 rfl (lv_at hl 0 rfl) ?_
  refine rg_get hk hW hx hb (own := "TimeStoreModel")  hown qf_TimeStoreModel_windows (by decide +kernel) (by decide +kernel) (v := .ref 138) (rHB.at hB 6 rfl) 2 rfl md_isNoWin_3 ?_
  refine rg_cv hk hW hx hb hml hl.1 (own := "TimeStoreModel") hown (rest := [.int (0), .int 0]) (c_size hk 138 1) qc_ArrayList.2.2 (by decide +kernel) (rHB.at hB 7 rfl) (rc_at.sub (rHB.at hB 7 rfl) [2] rfl) 0 rfl (by decide +kernel) ⟨by decide +kernel, by decide +kernel, by decide +kernel⟩ ⟨Nat.le_of_ble_eq_true rfl, Nat.le_of_ble_eq_true rfl⟩ (Nat.le_of_ble_eq_true rfl) ⟨Nat.le_of_ble_eq_true rfl, Nat.le_of_ble_eq_true rfl⟩ md_isNoWin_6 rfl (fun v H1 L hp hL => ?_)
  obtain ⟨rfl, rfl⟩ := hp
  obtain rfl : L = [] := rg_nil hL
  refine W.eq (g2 := F0 m 9 ls [.int 1, .int (0), .int 0]) rfl ?_
  refine lv_iconst (v := (1)) hx hb md_isNoWin_9 (by decide) ?_
  refine lv_isub hx hb md_isNoWin_10 ?_
  refine rg_cs hk hW hx hb hml hl.1 (own := "TimeStoreModel") hown (rest := []) (c_isIn1 hk 0 0 (1 - (1)) (by decide) (by decide)) (trivial) 3 rfl (by decide +kernel) ⟨by decide +kernel, by decide +kernel, by decide +kernel⟩ ⟨Nat.le_of_ble_eq_true rfl, Nat.le_of_ble_eq_true rfl⟩ (Nat.le_of_ble_eq_true rfl) ⟨Nat.le_of_ble_eq_true rfl, Nat.le_of_ble_eq_true rfl⟩ md_isNoWin_11 rfl (fun v H1 L hp hL => ?_)
  obtain ⟨rfl, rfl⟩ := hp
  obtain rfl : L = [] := rg_nil hL
  refine W.eq (g2 := F0 m 14 ls [.int 1]) rfl ?_
  refine lv_if_ne (tgt := 21) hx hb md_isNoWin_14 (by decide) (fun _ => ?_) (fun h => absurd h (by decide))
  refine lv_iconst (v := (0)) hx hb md_isNoWin_21 (by decide) ?_
  exact W.zret (v := 0) hx hb hr narrow_b0 (fun t ht _ => rg_q (by rw [ht]; exact ⟨rfl, rfl⟩)) (by simp) md_isNoWin_22
set_option maxHeartbeats 1000000 in
set_option maxRecDepth 100000 in
theorem c_preCheck {t0 : State} (hk : rK t0) : RM t0 my_preCheck mb_preCheck 3 (some .int) 0 0 0 0 [.int 0, .int 1, .null] (fun _ => True) (fun H v H1 => v = some (.int 0) ∧ H1 = H) (fun _ => False) := by
  refine rg_body (by decide +kernel) (Nat.le_of_ble_eq_true rfl) (fun p e s m below meth c ls hx hb hml hr hlocks hown hname hW hB hl => ?_)
  have hl : lv_has ls 3 [(0, .int 0), (1, .int 1), (2, .null)] := hl
  refine lv_iload_n hx hb md_preCheck_0 rfl (lv_at hl 0 rfl) ?_
  refine lv_if_lt (tgt := 9) hx hb md_preCheck_1 (by decide) (fun h => absurd h (by decide)) (fun _ => ?_)
  refine lv_iload_n hx hb md_preCheck_4 rfl (lv_at hl 0 rfl) ?_
  refine lv_iload_n hx hb md_preCheck_5 rfl (lv_at hl 1 rfl) ?_
  refine lv_icmp_lt (tgt := 16) hx hb md_preCheck_6 (by decide) (fun _ => ?_) (fun h => absurd (by decide) h)
  refine lv_iload_n hx hb md_preCheck_16 rfl (lv_at hl 0 rfl) ?_
  exact W.iret (v := 0) hx hb hr (fun t ht _ => rg_q (by rw [ht]; exact ⟨rfl, rfl⟩)) (by simp) md_preCheck_17
set_option maxHeartbeats 1000000 in
set_option maxRecDepth 100000 in
theorem c_objCheck {t0 : State} (hk : rK t0) : RM t0 my_objCheck mb_objCheck 2 (some .int) 1 30 0 0 [.int 0, .int 1] (fun _ => True) (fun H v H1 => v = some (.int 0) ∧ H1 = H) (fun _ => False) := by
  refine rg_body (by decide +kernel) (Nat.le_of_ble_eq_true rfl) (fun p e s m below meth c ls hx hb hml hr hlocks hown hname hW hB hl => ?_)
  have hl : lv_has ls 2 [(0, .int 0), (1, .int 1)] := hl
  refine lv_iload_n hx hb md_objCheck_0 rfl (lv_at hl 0 rfl) ?_
  refine lv_iload_n hx hb md_objCheck_1 rfl (lv_at hl 1 rfl) ?_
  refine lv_null hx hb md_objCheck_2 ?_
  refine rg_cs hk hW hx hb hml hl.1 (own := "java/util/Objects") hown (rest := []) (c_preCheck hk) (trivial) 3 rfl (by decide +kernel) ⟨by decide +kernel, by decide +kernel, by decide +kernel⟩ ⟨Nat.le_of_ble_eq_true rfl, Nat.le_of_ble_eq_true rfl⟩ (Nat.le_of_ble_eq_true rfl) ⟨Nat.le_of_ble_eq_true rfl, Nat.le_of_ble_eq_true rfl⟩ md_objCheck_3 rfl (fun v H1 L hp hL => ?_)
  obtain ⟨rfl, rfl⟩ := hp
  obtain rfl : L = [] := rg_nil hL
  refine W.eq (g2 := F0 m 6 ls [.int 0]) rfl ?_
  exact W.iret (v := 0) hx hb hr (fun t ht _ => rg_q (by rw [ht]; exact ⟨rfl, rfl⟩)) (by simp) md_objCheck_6
set_option maxHeartbeats 1000000 in
set_option maxRecDepth 100000 in
theorem c_elem {t0 : State} (hk : rK t0) : RM t0 my_elemData mb_elemData 2 (some (.object "java/lang/Object")) 0 0 0 0 [.ref 138, .int 0] (rHB) (fun H v H1 => v = some (.ref 146) ∧ H1 = H) (fun _ => False) := by
  refine rg_body (by decide +kernel) (Nat.le_of_ble_eq_true rfl) (fun p e s m below meth c ls hx hb hml hr hlocks hown hname hW hB hl => ?_)
  have hl : lv_has ls 2 [(0, .ref 138), (1, .int 0)] := hl
  refine lv_aload_n hx hb md_elemData_0 rfl (lv_at hl 0 rfl) ?_
  refine rg_get hk hW hx hb (own := "java/util/ArrayList")  hown qf_ArrayList_elementData (by decide +kernel) (by decide +kernel) (v := .ref 147) (rHB.at hB 7 rfl) 1 rfl md_elemData_1 ?_
  refine lv_iload_n hx hb md_elemData_4 rfl (lv_at hl 1 rfl) ?_
  refine rg_aald hk hW hx hb (k := 57) (.object "java/lang/Object") (by decide +kernel) rfl (v := .ref 146) (rHB.at hB 8 rfl) 0 rfl (by decide) md_elemData_5 ?_
  exact W.aret (v := .ref 146) hx hb hr (Or.inl ⟨_, rfl⟩) (Or.inr ⟨_, rfl⟩) (fun t ht _ => rg_q (by rw [ht]; exact ⟨rfl, rfl⟩)) (by simp) md_elemData_6
set_option maxHeartbeats 1000000 in
set_option maxRecDepth 100000 in
theorem c_get {t0 : State} (hk : rK t0) : RM t0 my_get mb_get 2 (some (.object "java/lang/Object")) 2 60 0 0 [.ref 138, .int 0] (rHB) (fun H v H1 => v = some (.ref 146) ∧ H1 = H) (fun _ => False) := by
  refine rg_body (by decide +kernel) (Nat.le_of_ble_eq_true rfl) (fun p e s m below meth c ls hx hb hml hr hlocks hown hname hW hB hl => ?_)
  have hl : lv_has ls 2 [(0, .ref 138), (1, .int 0)] := hl
  refine lv_iload_n hx hb md_get_0 rfl (lv_at hl 1 rfl) ?_
  refine lv_aload_n hx hb md_get_1 rfl (lv_at hl 0 rfl) ?_
  refine rg_get hk hW hx hb (own := "java/util/ArrayList")  hown qf_ArrayList_size (by decide +kernel) (by decide +kernel) (v := .int 1) (rHB.at hB 7 rfl) 2 rfl md_get_2 ?_
  refine rg_cs hk hW hx hb hml hl.1 (own := "java/util/ArrayList") hown (rest := []) (c_objCheck hk) (trivial) 2 rfl (by decide +kernel) ⟨by decide +kernel, by decide +kernel, by decide +kernel⟩ ⟨Nat.le_of_ble_eq_true rfl, Nat.le_of_ble_eq_true rfl⟩ (Nat.le_of_ble_eq_true rfl) ⟨Nat.le_of_ble_eq_true rfl, Nat.le_of_ble_eq_true rfl⟩ md_get_5 rfl (fun v H1 L hp hL => ?_)
  obtain ⟨rfl, rfl⟩ := hp
  obtain rfl : L = [] := rg_nil hL
  refine W.eq (g2 := F0 m 8 ls [.int 0]) rfl ?_
  refine lv_pop hx hb md_get_8 rfl ?_
  refine lv_aload_n hx hb md_get_9 rfl (lv_at hl 0 rfl) ?_
  refine lv_iload_n hx hb md_get_10 rfl (lv_at hl 1 rfl) ?_
  refine rg_cv hk hW hx hb hml hl.1 (own := "java/util/ArrayList") hown (rest := []) (c_elem hk) qc_ArrayList.2.2 (by decide +kernel) (rHB.at hB 7 rfl) (hB) 1 rfl (by decide +kernel) ⟨by decide +kernel, by decide +kernel, by decide +kernel⟩ ⟨Nat.le_of_ble_eq_true rfl, Nat.le_of_ble_eq_true rfl⟩ (Nat.le_of_ble_eq_true rfl) ⟨Nat.le_of_ble_eq_true rfl, Nat.le_of_ble_eq_true rfl⟩ md_get_11 rfl (fun v H1 L hp hL => ?_)
  obtain ⟨rfl, rfl⟩ := hp
  obtain rfl : L = [] := rg_nil hL
  refine W.eq (g2 := F0 m 14 ls [.ref 146]) rfl ?_
  exact W.aret (v := .ref 146) hx hb hr (Or.inl ⟨_, rfl⟩) (Or.inr ⟨_, rfl⟩) (fun t ht _ => rg_q (by rw [ht]; exact ⟨rfl, rfl⟩)) (by simp) md_get_14
set_option maxHeartbeats 1000000 in
set_option maxRecDepth 100000 in
theorem c_of {t0 : State} (hk : rK t0) : RM t0 my_of mb_of 2 (some (.object "java/util/ArrayList")) 0 0 0 0 [.ref 126, .int 0] (rHB) (fun H v H1 => v = some (.ref 127) ∧ H1 = H) (fun _ => False) := by
  refine rg_body (by decide +kernel) (Nat.le_of_ble_eq_true rfl) (fun p e s m below meth c ls hx hb hml hr hlocks hown hname hW hB hl => ?_)
  have hl : lv_has ls 2 [(0, .ref 126), (1, .int 0)] := hl
  refine lv_iload_n hx hb md_of_0 rfl (lv_at hl 1 rfl) ?_
  refine lv_if_ne (tgt := 11) hx hb md_of_1 (by decide) (fun h => absurd (by decide) h) (fun _ => ?_)
  refine lv_aload_n hx hb md_of_4 rfl (lv_at hl 0 rfl) ?_
  refine rg_get hk hW hx hb (own := "TimeStoreModel")  hown qf_TimeStoreModel_first (by decide +kernel) (by decide +kernel) (v := .ref 127) (rHB.at hB 6 rfl) 1 rfl md_of_5 ?_
  refine lv_goto (tgt := 15) hx hb md_of_8 (by decide) ?_
  exact W.aret (v := .ref 127) hx hb hr (Or.inl ⟨_, rfl⟩) (Or.inr ⟨_, rfl⟩) (fun t ht _ => rg_q (by rw [ht]; exact ⟨rfl, rfl⟩)) (by simp) md_of_15
