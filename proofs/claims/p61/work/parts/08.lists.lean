/-! CONTRACTS, lists and their iterators -/
theorem rg_lap {F : Nat → Prop} {A B : List Loc} (h1 : ∀ x ∈ A, F x.base) (h2 : ∀ x ∈ B, F x.base) : ∀ x ∈ A ++ B, F x.base := fun x h => (List.mem_append.mp h).elim (h1 x) (h2 x)
theorem rg_lone {F : Nat → Prop} {a i : Nat} (h : F a) : ∀ x ∈ ([⟨a, i⟩] : List Loc), F x.base := fun x hx => by rw [List.mem_singleton.mp hx]; exact h
set_option maxHeartbeats 1000000 in
set_option maxRecDepth 100000 in
theorem c_abc {t0 : State} (hk : rK t0) (a : Nat) : RM t0 my_abcInit mb_abcInit 1 none 1 30 0 0 [.ref a] (fun _ => True) (fun H v H1 => v = none ∧ H1 = H) (fun _ => False) := by
  refine rg_body (by decide +kernel) (Nat.le_of_ble_eq_true rfl) (fun p e s m below meth c ls hx hb hml hr hlocks hown hname hW hB hl => ?_)
  have hl : lv_has ls 1 [(0, .ref a)] := hl
  refine lv_aload_n hx hb md_abcInit_0 rfl (lv_at hl 0 rfl) ?_
  refine W.objInit hx hb hown (rw_at hk hW (w := .methodLink "java/util/AbstractCollection" 1 Lib.objectInit) (by decide +kernel) _) (rw_at hk hW (w := .instanceMethod Lib.objectInit) (by decide +kernel) _) (rw_at hk hW (w := .code Lib.objectInit ⟨#[0xb1]⟩ 1 none) (by decide +kernel) _) rfl (by rw [hml]; exact hl.1) rfl md_abcInit_1 (Nat.le_of_ble_eq_true rfl) (Nat.le_of_ble_eq_true rfl) ?_
  refine W.eq (g2 := F0 m 4 ls []) rfl ?_
  exact W.vret hx hb hr (fun t ht _ => rg_q (by rw [ht]; exact ⟨rfl, rfl⟩)) (by simp) md_abcInit_4
set_option maxHeartbeats 1000000 in
set_option maxRecDepth 100000 in
theorem c_abl {t0 : State} (hk : rK t0) (a : Nat) : RM t0 my_ablInit mb_ablInit 1 none 2 60 0 0 [.ref a] (fun H => rc_at H a 47 3 [(0, .int 0)]) (fun H v H1 => v = none ∧ H1 = H) (fun x => x = a) := by
  refine rg_body (by decide +kernel) (Nat.le_of_ble_eq_true rfl) (fun p e s m below meth c ls hx hb hml hr hlocks hown hname hW hB hl => ?_)
  have hl : lv_has ls 1 [(0, .ref a)] := hl
  refine lv_aload_n hx hb md_ablInit_0 rfl (lv_at hl 0 rfl) ?_
  refine rg_ci hk hW hx hb hml hl.1 (own := "java/util/AbstractList") hown (rest := []) (c_abc hk a) (trivial) rfl 0 rfl (by decide +kernel) ⟨by decide +kernel, by decide +kernel, by decide +kernel⟩ ⟨Nat.le_of_ble_eq_true rfl, Nat.le_of_ble_eq_true rfl⟩ (Nat.le_of_ble_eq_true rfl) ⟨Nat.le_of_ble_eq_true rfl, Nat.le_of_ble_eq_true rfl⟩ md_ablInit_1 rfl (fun v H1 L hp hL => ?_)
  obtain ⟨rfl, rfl⟩ := hp
  obtain rfl : L = [] := rg_nil hL
  refine W.eq (g2 := F0 m 4 ls []) rfl ?_
  refine lv_aload_n hx hb md_ablInit_4 rfl (lv_at hl 0 rfl) ?_
  refine lv_iconst (v := (0)) hx hb md_ablInit_5 (by decide) ?_
  refine rg_puts hk hW hx hb (own := "java/util/AbstractList") hown qf_AbstractList_modCount (by decide +kernel) (by decide +kernel) qc_ArrayList (by decide +kernel) rfl rfl rfl hB 0 rfl rfl rfl md_ablInit_6 ?_
  exact W.vret hx hb hr (fun t ht _ => rg_q (by rw [ht]; exact ⟨rfl, rfl⟩)) (by simp) md_ablInit_9
set_option maxHeartbeats 1000000 in
set_option maxRecDepth 100000 in
theorem c_ali {t0 : State} (hk : rK t0) (a : Nat) : RM t0 my_alInit mb_alInit 1 none 3 90 0 0 [.ref a] (fun H => rc_at H a 47 3 [(0, .int 0), (1, .null), (2, .int 0)] ∧ (∃ c : Cell, H[6]? = some c ∧ c.vm = .statics 47 ∧ c.slots[3]? = some (.ref 9))) (fun H v H1 => v = none ∧ H1.size = H.size ∧ (∀ x, x ≠ a → H1[x]? = H[x]?) ∧ rc_at H1 a 47 3 [(1, .ref 9), (0, .int 0), (2, .int 0)]) (fun x => x = a) := by
  refine rg_body (by decide +kernel) (Nat.le_of_ble_eq_true rfl) (fun p e s m below meth c ls hx hb hml hr hlocks hown hname hW hB hl => ?_)
  have hl : lv_has ls 1 [(0, .ref a)] := hl
  obtain ⟨hB, hS⟩ := hB
  refine lv_aload_n hx hb md_alInit_0 rfl (lv_at hl 0 rfl) ?_
  refine rg_ci hk hW hx hb hml hl.1 (own := "java/util/ArrayList") hown (rest := []) (c_abl hk a) (hB.sub [0] rfl) rfl 0 rfl (by decide +kernel) ⟨by decide +kernel, by decide +kernel, by decide +kernel⟩ ⟨Nat.le_of_ble_eq_true rfl, Nat.le_of_ble_eq_true rfl⟩ (Nat.le_of_ble_eq_true rfl) ⟨Nat.le_of_ble_eq_true rfl, Nat.le_of_ble_eq_true rfl⟩ md_alInit_1 rfl (fun v H1 L1 hp hL1 => ?_)
  obtain ⟨rfl, rfl⟩ := hp
  refine W.eq (g2 := F0 m 4 ls []) rfl ?_
  refine lv_aload_n hx hb md_alInit_4 rfl (lv_at hl 0 rfl) ?_
  refine rg_gets hk hW hx hb hown (by decide +kernel) hS md_alInit_5 ?_
  refine rg_put hk hW hx hb (own := "java/util/ArrayList") hown qf_ArrayList_elementData (by decide +kernel) (by decide +kernel) qc_ArrayList (by decide +kernel) rfl rfl (Or.inl rfl) hB rfl rfl md_alInit_8 (fun H2 z2 k2 n2 => ?_)
  exact W.vret hx hb hr (fun t ht _ => rg_q (by rw [ht]; exact ⟨rfl, z2, k2, n2⟩)) (rg_lap (F := fun x : Nat => x = a) (rg_lap (F := fun x : Nat => x = a) (by simp) hL1) (rg_lone (F := fun x : Nat => x = a) rfl)) md_alInit_11
set_option maxHeartbeats 1000000 in
set_option maxRecDepth 100000 in
theorem c_itri {t0 : State} (hk : rK t0) (a b : Nat) (mc : Int32) : RM t0 my_itrInit mb_itrInit 2 none 1 30 0 0 [.ref a, .ref b] (fun H => rc_at H a 31 4 [(0, .int 0), (1, .int 0), (2, .int 0), (3, .null)] ∧ rc_at H b 47 3 [(0, .int mc)] ∧ b ≠ a) (fun H v H1 => v = none ∧ H1.size = H.size ∧ (∀ x, x ≠ a → H1[x]? = H[x]?) ∧ rc_at H1 a 31 4 [(2, .int mc), (1, .int (-1)), (3, .ref b), (0, .int 0)]) (fun x => x = a) := by
  refine rg_body (by decide +kernel) (Nat.le_of_ble_eq_true rfl) (fun p e s m below meth c ls hx hb hml hr hlocks hown hname hW hB hl => ?_)
  have hl : lv_has ls 2 [(0, .ref a), (1, .ref b)] := hl
  obtain ⟨hB, hC, hne⟩ := hB
  refine lv_aload_n hx hb md_itrInit_0 rfl (lv_at hl 0 rfl) ?_
  refine lv_aload_n hx hb md_itrInit_1 rfl (lv_at hl 1 rfl) ?_
  refine rg_put hk hW hx hb (own := "java/util/ArrayList$Itr") hown qf_ArrayListItr_this0 (by decide +kernel) (by decide +kernel) qc_ArrayListItr (by decide +kernel) rfl rfl (Or.inr ⟨hname, rfl, rfl⟩) hB rfl rfl md_itrInit_2 (fun H1 z1 k1 n1 => ?_)
  refine lv_aload_n hx hb md_itrInit_5 rfl (lv_at hl 0 rfl) ?_
  refine W.objInit hx hb hown (rw_at hk hW (w := .methodLink "java/util/ArrayList$Itr" 7 Lib.objectInit) (by decide +kernel) _) (rw_at hk hW (w := .instanceMethod Lib.objectInit) (by decide +kernel) _) (rw_at hk hW (w := .code Lib.objectInit ⟨#[0xb1]⟩ 1 none) (by decide +kernel) _) rfl (by rw [hml]; exact hl.1) rfl md_itrInit_6 (Nat.le_of_ble_eq_true rfl) (Nat.le_of_ble_eq_true rfl) ?_
  refine W.eq (g2 := F0 m 9 ls []) rfl ?_
  refine lv_aload_n hx hb md_itrInit_9 rfl (lv_at hl 0 rfl) ?_
  refine lv_iconst (v := (-1)) hx hb md_itrInit_10 (by decide) ?_
  refine rg_put hk hW hx hb (own := "java/util/ArrayList$Itr") hown qf_ArrayListItr_lastRet (by decide +kernel) (by decide +kernel) qc_ArrayListItr (by decide +kernel) rfl rfl (Or.inl rfl) n1 rfl rfl md_itrInit_11 (fun H2 z2 k2 n2 => ?_)
  refine lv_aload_n hx hb md_itrInit_14 rfl (lv_at hl 0 rfl) ?_
  refine lv_aload_n hx hb md_itrInit_15 rfl (lv_at hl 0 rfl) ?_
  refine rg_get hk hW hx hb (own := "java/util/ArrayList$Itr")  hown qf_ArrayListItr_this0 (by decide +kernel) (by decide +kernel) (v := .ref b) n2 1 rfl md_itrInit_16 ?_
  refine rg_get hk hW hx hb (own := "java/util/ArrayList$Itr")  hown qf_ArrayList_modCount (by decide +kernel) (by decide +kernel) (v := .int mc) ((hC.kept (k1 b hne)).kept (k2 b hne)) 0 rfl md_itrInit_19 ?_
  refine rg_put hk hW hx hb (own := "java/util/ArrayList$Itr") hown qf_ArrayListItr_expectedModCount (by decide +kernel) (by decide +kernel) qc_ArrayListItr (by decide +kernel) rfl rfl (Or.inl rfl) n2 rfl rfl md_itrInit_22 (fun H3 z3 k3 n3 => ?_)
  exact W.vret hx hb hr (fun t ht _ => rg_q (by rw [ht]; exact ⟨rfl, z3.trans (z2.trans z1), fun x hx => (k3 x hx).trans ((k2 x hx).trans (k1 x hx)), n3⟩)) (by simp) md_itrInit_25
set_option maxHeartbeats 1000000 in
set_option maxRecDepth 100000 in
theorem c_iter {t0 : State} (hk : rK t0) (b : Nat) (mc : Int32) (sz : Nat) : RM t0 my_iterator mb_iterator 1 (some (.object "java/util/Iterator")) 2 60 1 4 [.ref b] (fun H => H.size = sz ∧ rc_at H b 47 3 [(0, .int mc)]) (fun H v H1 => v = some (.ref sz) ∧ H1.size = sz + 1 ∧ (∀ x, x < sz → H1[x]? = H[x]?) ∧ rc_at H1 sz 31 4 [(2, .int mc), (1, .int (-1)), (3, .ref b), (0, .int 0)]) (fun x => sz ≤ x) := by
  refine rg_body (by decide +kernel) (Nat.le_of_ble_eq_true rfl) (fun p e s m below meth c ls hx hb hml hr hlocks hown hname hW hB hl => ?_)
  have hl : lv_has ls 1 [(0, .ref b)] := hl
  obtain ⟨hsz, hB⟩ := hB
  subst hsz
  refine rg_new hk hW hx hb (own := "java/util/ArrayList") hown (n := 4) qc_ArrayListItr (by decide +kernel) (by decide +kernel) (by decide +kernel) (by decide +kernel) rfl (vs := [(0, .int 0), (1, .int 0), (2, .int 0), (3, .null)]) (by decide +kernel) (Nat.le_of_ble_eq_true rfl) (Nat.le_of_ble_eq_true rfl) md_iterator_0 (fun H1 z1 k1 n1 => ?_)
  have hlt := hB.lt
  refine lv_dup hx hb md_iterator_3 rfl ?_
  refine lv_aload_n hx hb md_iterator_4 rfl (lv_at hl 0 rfl) ?_
  refine rg_ci hk hW hx hb hml hl.1 (own := "java/util/ArrayList") hown (rest := [.ref s.heap.size]) (c_itri hk s.heap.size b mc) (⟨n1, hB.kept (k1 b hlt), by omega⟩) rfl 1 rfl (by decide +kernel) ⟨by decide +kernel, by decide +kernel, by decide +kernel⟩ ⟨Nat.le_of_ble_eq_true rfl, Nat.le_of_ble_eq_true rfl⟩ (Nat.le_of_ble_eq_true rfl) ⟨Nat.le_of_ble_eq_true rfl, Nat.le_of_ble_eq_true rfl⟩ md_iterator_5 rfl (fun v H2 L2 hp hL2 => ?_)
  obtain ⟨rfl, z2, k2, n2⟩ := hp
  refine W.eq (g2 := F0 m 8 ls [.ref s.heap.size]) rfl ?_
  exact W.aret (v := .ref s.heap.size) hx hb hr (Or.inl ⟨_, rfl⟩) (Or.inr ⟨_, rfl⟩) (fun t ht _ => rg_q (by rw [ht]; exact ⟨rfl, z2.trans z1, fun x hx => (k2 x (by omega)).trans (k1 x hx), n2⟩)) (rg_lap (F := fun x : Nat => s.heap.size ≤ x) (by simp) (fun x h => Nat.le_of_eq (Eq.symm (hL2 x h)))) md_iterator_8
set_option maxHeartbeats 1000000 in
set_option maxRecDepth 100000 in
theorem c_hasNext0 {t0 : State} (hk : rK t0) (a b : Nat) (i n : Int32) (hq : n = i) : RM t0 my_hasNext mb_hasNext 1 (some .boolean) 0 0 0 0 [.ref a] (fun H => rc_at H a 31 4 [(0, .int i), (3, .ref b)] ∧ rc_at H b 47 3 [(2, .int n)]) (fun H v H1 => v = some (.int 0) ∧ H1 = H) (fun _ => False) := by
  refine rg_body (by decide +kernel) (Nat.le_of_ble_eq_true rfl) (fun p e s m below meth c ls hx hb hml hr hlocks hown hname hW hB hl => ?_)
  have hl : lv_has ls 1 [(0, .ref a)] := hl
  obtain ⟨hB, hC⟩ := hB
  refine lv_aload_n hx hb md_hasNext_0 rfl (lv_at hl 0 rfl) ?_
  refine rg_get hk hW hx hb (own := "java/util/ArrayList$Itr")  hown qf_ArrayListItr_cursor (by decide +kernel) (by decide +kernel) (v := .int i) hB 0 rfl md_hasNext_1 ?_
  refine lv_aload_n hx hb md_hasNext_4 rfl (lv_at hl 0 rfl) ?_
  refine rg_get hk hW hx hb (own := "java/util/ArrayList$Itr")  hown qf_ArrayListItr_this0 (by decide +kernel) (by decide +kernel) (v := .ref b) hB 1 rfl md_hasNext_5 ?_
  refine rg_getN hk hW hx hb (own := "java/util/ArrayList$Itr") (host := "java/util/ArrayList") hown qf_ArrayList_size (by decide +kernel) (by decide +kernel) (v := .int n) hC 0 rfl md_hasNext_8 ?_
  refine lv_icmp_eq (tgt := 18) hx hb md_hasNext_11 (by decide) (fun _ => ?_) (fun h => absurd (hq.symm) h)
  refine lv_iconst (v := (0)) hx hb md_hasNext_18 (by decide) ?_
  exact W.zret (v := 0) hx hb hr narrow_b0 (fun t ht _ => rg_q (by rw [ht]; exact ⟨rfl, rfl⟩)) (by simp) md_hasNext_19
set_option maxHeartbeats 1000000 in
set_option maxRecDepth 100000 in
theorem c_hasNext1 {t0 : State} (hk : rK t0) (a b : Nat) (i n : Int32) (hq : ¬ i = n) : RM t0 my_hasNext mb_hasNext 1 (some .boolean) 0 0 0 0 [.ref a] (fun H => rc_at H a 31 4 [(0, .int i), (3, .ref b)] ∧ rc_at H b 47 3 [(2, .int n)]) (fun H v H1 => v = some (.int 1) ∧ H1 = H) (fun _ => False) := by
  refine rg_body (by decide +kernel) (Nat.le_of_ble_eq_true rfl) (fun p e s m below meth c ls hx hb hml hr hlocks hown hname hW hB hl => ?_)
  have hl : lv_has ls 1 [(0, .ref a)] := hl
  obtain ⟨hB, hC⟩ := hB
  refine lv_aload_n hx hb md_hasNext_0 rfl (lv_at hl 0 rfl) ?_
  refine rg_get hk hW hx hb (own := "java/util/ArrayList$Itr")  hown qf_ArrayListItr_cursor (by decide +kernel) (by decide +kernel) (v := .int i) hB 0 rfl md_hasNext_1 ?_
  refine lv_aload_n hx hb md_hasNext_4 rfl (lv_at hl 0 rfl) ?_
  refine rg_get hk hW hx hb (own := "java/util/ArrayList$Itr")  hown qf_ArrayListItr_this0 (by decide +kernel) (by decide +kernel) (v := .ref b) hB 1 rfl md_hasNext_5 ?_
  refine rg_getN hk hW hx hb (own := "java/util/ArrayList$Itr") (host := "java/util/ArrayList") hown qf_ArrayList_size (by decide +kernel) (by decide +kernel) (v := .int n) hC 0 rfl md_hasNext_8 ?_
  refine lv_icmp_eq (tgt := 18) hx hb md_hasNext_11 (by decide) (fun h => absurd h (hq)) (fun _ => ?_)
  refine lv_iconst (v := (1)) hx hb md_hasNext_14 (by decide) ?_
  refine lv_goto (tgt := 19) hx hb md_hasNext_15 (by decide) ?_
  exact W.zret (v := 1) hx hb hr narrow_b1 (fun t ht _ => rg_q (by rw [ht]; exact ⟨rfl, rfl⟩)) (by simp) md_hasNext_19
set_option maxHeartbeats 1000000 in
set_option maxRecDepth 100000 in
theorem c_chk {t0 : State} (hk : rK t0) (a b : Nat) (mc : Int32) : RM t0 my_checkMod mb_checkMod 1 none 0 0 0 0 [.ref a] (fun H => rc_at H a 31 4 [(2, .int mc), (3, .ref b)] ∧ rc_at H b 47 3 [(0, .int mc)]) (fun H v H1 => v = none ∧ H1 = H) (fun _ => False) := by
  refine rg_body (by decide +kernel) (Nat.le_of_ble_eq_true rfl) (fun p e s m below meth c ls hx hb hml hr hlocks hown hname hW hB hl => ?_)
  have hl : lv_has ls 1 [(0, .ref a)] := hl
  obtain ⟨hB, hC⟩ := hB
  refine lv_aload_n hx hb md_checkMod_0 rfl (lv_at hl 0 rfl) ?_
  refine rg_get hk hW hx hb (own := "java/util/ArrayList$Itr")  hown qf_ArrayListItr_this0 (by decide +kernel) (by decide +kernel) (v := .ref b) hB 1 rfl md_checkMod_1 ?_
  refine rg_get hk hW hx hb (own := "java/util/ArrayList$Itr")  hown qf_ArrayList_modCount (by decide +kernel) (by decide +kernel) (v := .int mc) hC 0 rfl md_checkMod_4 ?_
  refine lv_aload_n hx hb md_checkMod_7 rfl (lv_at hl 0 rfl) ?_
  refine rg_get hk hW hx hb (own := "java/util/ArrayList$Itr")  hown qf_ArrayListItr_expectedModCount (by decide +kernel) (by decide +kernel) (v := .int mc) hB 0 rfl md_checkMod_8 ?_
  refine lv_icmp_eq (tgt := 22) hx hb md_checkMod_11 (by decide) (fun _ => ?_) (fun h => absurd (rfl) h)
  exact W.vret hx hb hr (fun t ht _ => rg_q (by rw [ht]; exact ⟨rfl, rfl⟩)) (by simp) md_checkMod_22
set_option maxHeartbeats 1000000 in
set_option maxRecDepth 100000 in
theorem c_next {t0 : State} (hk : rK t0) (a : Nat) : RM t0 my_next mb_next 3 (some (.object "java/lang/Object")) 1 30 0 0 [.ref a] (fun H => rHB H ∧ rc_at H a 31 4 [(2, .int 1), (1, .int (-1)), (3, .ref 127), (0, .int 0)] ∧ 148 ≤ a) (fun H v H1 => v = some (.ref 142) ∧ H1.size = H.size ∧ (∀ x, x ≠ a → H1[x]? = H[x]?) ∧ rc_at H1 a 31 4 [(0, .int (0 + 1)), (3, .ref 127)]) (fun x => x = a) := by
  refine rg_body (by decide +kernel) (Nat.le_of_ble_eq_true rfl) (fun p e s m below meth c ls hx hb hml hr hlocks hown hname hW hB hl => ?_)
  have hl : lv_has ls 3 [(0, .ref a)] := hl
  obtain ⟨hR, hB, hge⟩ := hB
  refine lv_aload_n hx hb md_next_0 rfl (lv_at hl 0 rfl) ?_
  refine rg_cv hk hW hx hb hml hl.1 (own := "java/util/ArrayList$Itr") hown (rest := []) (c_chk hk a 127 1) qc_ArrayListItr.2.2 (by decide +kernel) hB (⟨hB.sub [0, 2] rfl, (rHB.at hR 10 rfl).sub [0] rfl⟩) 0 rfl (by decide +kernel) ⟨by decide +kernel, by decide +kernel, by decide +kernel⟩ ⟨Nat.le_of_ble_eq_true rfl, Nat.le_of_ble_eq_true rfl⟩ (Nat.le_of_ble_eq_true rfl) ⟨Nat.le_of_ble_eq_true rfl, Nat.le_of_ble_eq_true rfl⟩ md_next_1 rfl (fun v H1 L hp hL => ?_)
  obtain ⟨rfl, rfl⟩ := hp
  obtain rfl : L = [] := rg_nil hL
  refine W.eq (g2 := F0 m 4 ls []) rfl ?_
  refine lv_aload_n hx hb md_next_4 rfl (lv_at hl 0 rfl) ?_
  refine rg_get hk hW hx hb (own := "java/util/ArrayList$Itr")  hown qf_ArrayListItr_cursor (by decide +kernel) (by decide +kernel) (v := .int 0) hB 3 rfl md_next_5 ?_
  refine lv_istore_n (lv' := [(1, .int 0), (0, .ref a)]) hx hb md_next_8 rfl hl (by decide) rfl (fun ls hl => ?_)
  refine lv_iload_n hx hb md_next_9 rfl (lv_at hl 0 rfl) ?_
  refine lv_aload_n hx hb md_next_10 rfl (lv_at hl 1 rfl) ?_
  refine rg_get hk hW hx hb (own := "java/util/ArrayList$Itr")  hown qf_ArrayListItr_this0 (by decide +kernel) (by decide +kernel) (v := .ref 127) hB 2 rfl md_next_11 ?_
  refine rg_getN hk hW hx hb (own := "java/util/ArrayList$Itr") (host := "java/util/ArrayList") hown qf_ArrayList_size (by decide +kernel) (by decide +kernel) (v := .int 1) (rHB.at hR 10 rfl) 2 rfl md_next_14 ?_
  refine lv_icmp_lt (tgt := 28) hx hb md_next_17 (by decide) (fun _ => ?_) (fun h => absurd (by decide) h)
  refine lv_aload_n hx hb md_next_28 rfl (lv_at hl 1 rfl) ?_
  refine rg_get hk hW hx hb (own := "java/util/ArrayList$Itr")  hown qf_ArrayListItr_this0 (by decide +kernel) (by decide +kernel) (v := .ref 127) hB 2 rfl md_next_29 ?_
  refine rg_get hk hW hx hb (own := "java/util/ArrayList$Itr")  hown qf_ArrayList_elementData (by decide +kernel) (by decide +kernel) (v := .ref 143) (rHB.at hR 10 rfl) 1 rfl md_next_32 ?_
  refine lv_astore_n (lv' := [(2, .ref 143), (1, .int 0), (0, .ref a)]) hx hb md_next_35 rfl hl (by decide) rfl (fun ls hl => ?_)
  refine lv_iload_n hx hb md_next_36 rfl (lv_at hl 1 rfl) ?_
  refine lv_aload_n hx hb md_next_37 rfl (lv_at hl 0 rfl) ?_
  refine rg_alen hk hW hx hb (k := 57) (.object "java/lang/Object") (by decide +kernel) (v := 10) (rHB.at hR 11 rfl) (by decide) md_next_38 ?_
  refine lv_icmp_lt (tgt := 50) hx hb md_next_39 (by decide) (fun _ => ?_) (fun h => absurd (by decide) h)
  refine lv_aload_n hx hb md_next_50 rfl (lv_at hl 2 rfl) ?_
  refine lv_iload_n hx hb md_next_51 rfl (lv_at hl 1 rfl) ?_
  refine lv_iconst (v := (1)) hx hb md_next_52 (by decide) ?_
  refine lv_iadd hx hb md_next_53 ?_
  refine rg_put hk hW hx hb (own := "java/util/ArrayList$Itr") hown qf_ArrayListItr_cursor (by decide +kernel) (by decide +kernel) qc_ArrayListItr (by decide +kernel) rfl rfl (Or.inl rfl) hB rfl rfl md_next_54 (fun H1 z1 k1 n1 => ?_)
  have hne : ∀ x, x < 148 → x ≠ a := fun x h => by omega
  refine lv_aload_n hx hb md_next_57 rfl (lv_at hl 0 rfl) ?_
  refine lv_aload_n hx hb md_next_58 rfl (lv_at hl 2 rfl) ?_
  refine lv_iload_n hx hb md_next_59 rfl (lv_at hl 1 rfl) ?_
  refine lv_dup_x1 hx hb md_next_60 rfl rfl ?_
  refine rg_put hk hW hx hb (own := "java/util/ArrayList$Itr") hown qf_ArrayListItr_lastRet (by decide +kernel) (by decide +kernel) qc_ArrayListItr (by decide +kernel) rfl rfl (Or.inl rfl) n1 rfl rfl md_next_61 (fun H2 z2 k2 n2 => ?_)
  refine rg_aald hk hW hx hb (k := 57) (.object "java/lang/Object") (by decide +kernel) rfl (v := .ref 142) (((rHB.at hR 11 rfl).kept (k1 143 (hne 143 (by decide)))).kept (k2 143 (hne 143 (by decide)))) 0 rfl (by decide) md_next_64 ?_
  exact W.aret (v := .ref 142) hx hb hr (Or.inl ⟨_, rfl⟩) (Or.inr ⟨_, rfl⟩) (fun t ht _ => rg_q (by rw [ht]; exact ⟨rfl, z2.trans z1, fun x hx => (k2 x hx).trans (k1 x hx), n2.sub [1, 3] rfl⟩)) (by simp) md_next_65
