/-! CONTRACTS, the class's side of ofWindow(0, 5) -/
set_option maxHeartbeats 1000000 in
set_option maxRecDepth 100000 in
theorem c_needWin {t0 : State} (hk : rK t0) : RM t0 my_needWin mb_needWin 2 none 0 0 0 0 [.ref 59, .int 0] (rHB) (fun H v H1 => v = none ∧ H1 = H) (fun _ => False) := by
  refine rg_body (by decide +kernel) (Nat.le_of_ble_eq_true rfl) (fun p e s m below meth c ls hx hb hml hr hlocks hown hname hW hB hl => ?_)
  have hl : lv_has ls 2 [(0, .ref 59), (1, .int 0)] := hl
  refine lv_iload_n hx hb md_needWin_0 rfl (lv_at hl 1 rfl) ?_
  refine lv_if_lt (tgt := 12) hx hb md_needWin_1 (by decide) (fun h => absurd h (by decide)) (fun _ => ?_)
  refine lv_iload_n hx hb md_needWin_4 rfl (lv_at hl 1 rfl) ?_
  refine lv_aload_n hx hb md_needWin_5 rfl (lv_at hl 0 rfl) ?_
  refine rg_get hk hW hx hb (own := "TimeStore")  hown qf_TimeStore_windowCount (by decide +kernel) (by decide +kernel) (v := .int 1) (rHB.at hB 0 rfl) 2 rfl md_needWin_6 ?_
  refine lv_icmp_lt (tgt := 23) hx hb md_needWin_9 (by decide) (fun _ => ?_) (fun h => absurd (by decide) h)
  exact W.vret hx hb hr (fun t ht _ => rg_q (by rw [ht]; exact ⟨rfl, rfl⟩)) (by simp) md_needWin_23
set_option maxHeartbeats 1000000 in
set_option maxRecDepth 100000 in
theorem c_needWhat {t0 : State} (hk : rK t0) : RM t0 my_needWhat mb_needWhat 2 none 0 0 0 0 [.int 5, .int 6] (fun _ => True) (fun H v H1 => v = none ∧ H1 = H) (fun _ => False) := by
  refine rg_body (by decide +kernel) (Nat.le_of_ble_eq_true rfl) (fun p e s m below meth c ls hx hb hml hr hlocks hown hname hW hB hl => ?_)
  have hl : lv_has ls 2 [(0, .int 5), (1, .int 6)] := hl
  refine lv_iload_n hx hb md_needWhat_0 rfl (lv_at hl 0 rfl) ?_
  refine lv_if_lt (tgt := 9) hx hb md_needWhat_1 (by decide) (fun h => absurd h (by decide)) (fun _ => ?_)
  refine lv_iload_n hx hb md_needWhat_4 rfl (lv_at hl 0 rfl) ?_
  refine lv_iload_n hx hb md_needWhat_5 rfl (lv_at hl 1 rfl) ?_
  refine lv_icmp_le (tgt := 20) hx hb md_needWhat_6 (by decide) (fun _ => ?_) (fun h => absurd (by decide) h)
  exact W.vret hx hb hr (fun t ht _ => rg_q (by rw [ht]; exact ⟨rfl, rfl⟩)) (by simp) md_needWhat_20
set_option maxHeartbeats 1000000 in
set_option maxRecDepth 100000 in
theorem c_storeAt {t0 : State} (hk : rK t0) : RM t0 my_storeAt mb_storeAt 2 (some (.object "TimeStore$Store")) 0 0 0 0 [.ref 59, .int 0] (rHB) (fun H v H1 => v = some (.ref 60) ∧ H1 = H) (fun _ => False) := by
  refine rg_body (by decide +kernel) (Nat.le_of_ble_eq_true rfl) (fun p e s m below meth c ls hx hb hml hr hlocks hown hname hW hB hl => ?_)
  have hl : lv_has ls 2 [(0, .ref 59), (1, .int 0)] := hl
  refine lv_iload_n hx hb md_storeAt_0 rfl (lv_at hl 1 rfl) ?_
  refine lv_if_ne (tgt := 11) hx hb md_storeAt_1 (by decide) (fun h => absurd (by decide) h) (fun _ => ?_)
  refine lv_aload_n hx hb md_storeAt_4 rfl (lv_at hl 0 rfl) ?_
  refine rg_get hk hW hx hb (own := "TimeStore")  hown qf_TimeStore_zero (by decide +kernel) (by decide +kernel) (v := .ref 60) (rHB.at hB 0 rfl) 0 rfl md_storeAt_5 ?_
  refine lv_goto (tgt := 15) hx hb md_storeAt_8 (by decide) ?_
  exact W.aret (v := .ref 60) hx hb hr (Or.inl ⟨_, rfl⟩) (Or.inr ⟨_, rfl⟩) (fun t ht _ => rg_q (by rw [ht]; exact ⟨rfl, rfl⟩)) (by simp) md_storeAt_15
set_option maxHeartbeats 1000000 in
set_option maxRecDepth 100000 in
theorem c_pack1 {t0 : State} (hk : rK t0) (P : Int32) (hP : P = 1) : RM t0 my_pack mb_pack 7 (some .long) 0 0 0 0 [.int 0, .int P, .int 0, .int 0, .int (-2)] (fun _ => True) (fun H v H1 => v = some (.long 262144) ∧ H1 = H) (fun _ => False) := by
  refine rg_body (by decide +kernel) (Nat.le_of_ble_eq_true rfl) (fun p e s m below meth c ls hx hb hml hr hlocks hown hname hW hB hl => ?_)
  have hl : lv_has ls 7 [(0, .int 0), (1, .int P), (2, .int 0), (3, .int 0), (4, .int (-2))] := hl
  subst hP
  refine lv_iload_n hx hb md_pack_0 rfl (lv_at hl 0 rfl) ?_
  refine lv_i2l (v := (0 : Int32).toInt64) hx hb md_pack_1 rfl ?_
  refine lv_topl (fun xv1 exv1 => ?_)
  refine lv_bipush (v := (10)) hx hb md_pack_2 (by decide) ?_
  refine lv_lshl (v := ((xv1) <<< (((10) : Int32).toInt64 &&& 63))) hx hb md_pack_4 rfl ?_
  refine lv_topl (fun xv2 exv2 => ?_)
  refine lv_iload_n hx hb md_pack_5 rfl (lv_at hl 1 rfl) ?_
  refine lv_i2l (v := (1 : Int32).toInt64) hx hb md_pack_6 rfl ?_
  refine lv_topl (fun xv3 exv3 => ?_)
  refine lv_lor hx hb md_pack_7 ?_
  refine lv_topl (fun xv4 exv4 => ?_)
  refine lv_lstore (lv' := [(5, .long xv4), (0, .int 0), (1, .int 1), (2, .int 0), (3, .int 0), (4, .int (-2))]) hx hb md_pack_8 hl (by decide) rfl (fun ls hl => ?_)
  refine lv_lload hx hb md_pack_10 (lv_at hl 0 rfl) ?_
  refine lv_bipush (v := (10)) hx hb md_pack_12 (by decide) ?_
  refine lv_lshl (v := ((xv4) <<< (((10) : Int32).toInt64 &&& 63))) hx hb md_pack_14 rfl ?_
  refine lv_topl (fun xv5 exv5 => ?_)
  refine lv_iload_n hx hb md_pack_15 rfl (lv_at hl 3 rfl) ?_
  refine lv_i2l (v := (0 : Int32).toInt64) hx hb md_pack_16 rfl ?_
  refine lv_topl (fun xv6 exv6 => ?_)
  refine lv_lor hx hb md_pack_17 ?_
  refine lv_topl (fun xv7 exv7 => ?_)
  refine lv_bipush (v := (8)) hx hb md_pack_18 (by decide) ?_
  refine lv_lshl (v := ((xv7) <<< (((8) : Int32).toInt64 &&& 63))) hx hb md_pack_20 rfl ?_
  refine lv_topl (fun xv8 exv8 => ?_)
  refine lv_iload_n hx hb md_pack_21 rfl (lv_at hl 4 rfl) ?_
  refine lv_bipush (v := (7)) hx hb md_pack_22 (by decide) ?_
  refine lv_ishl hx hb md_pack_24 ?_
  refine lv_topi (fun xv9 exv9 => ?_)
  refine lv_i2l (v := (xv9 : Int32).toInt64) hx hb md_pack_25 rfl ?_
  refine lv_topl (fun xv10 exv10 => ?_)
  refine lv_lor hx hb md_pack_26 ?_
  refine lv_topl (fun xv11 exv11 => ?_)
  refine lv_iload hx hb md_pack_27 (lv_at hl 5 rfl) ?_
  refine lv_iconst (v := (2)) hx hb md_pack_29 (by decide) ?_
  refine lv_iadd hx hb md_pack_30 ?_
  refine lv_i2l (v := (((-2) + (2)) : Int32).toInt64) hx hb md_pack_31 rfl ?_
  refine lv_topl (fun xv12 exv12 => ?_)
  refine lv_lor hx hb md_pack_32 ?_
  refine lv_topl (fun xv13 exv13 => ?_)
  exact W.lret (v := xv13) hx hb hr (fun t ht _ => rg_q (by rw [ht]; refine ⟨?_, rfl⟩; rw [exv13, exv12, exv11, exv10, exv9, exv8, exv7, exv6, exv5, exv4, exv3, exv2, exv1]; decide +kernel)) (by simp) md_pack_33
set_option maxHeartbeats 1000000 in
set_option maxRecDepth 100000 in
theorem c_pack2 {t0 : State} (hk : rK t0) (P : Int32) (hP : P = 1000) : RM t0 my_pack mb_pack 7 (some .long) 0 0 0 0 [.int 0, .int P, .int 0, .int 0, .int (-2)] (fun _ => True) (fun H v H1 => v = some (.long 262144000) ∧ H1 = H) (fun _ => False) := by
  refine rg_body (by decide +kernel) (Nat.le_of_ble_eq_true rfl) (fun p e s m below meth c ls hx hb hml hr hlocks hown hname hW hB hl => ?_)
  have hl : lv_has ls 7 [(0, .int 0), (1, .int P), (2, .int 0), (3, .int 0), (4, .int (-2))] := hl
  subst hP
  refine lv_iload_n hx hb md_pack_0 rfl (lv_at hl 0 rfl) ?_
  refine lv_i2l (v := (0 : Int32).toInt64) hx hb md_pack_1 rfl ?_
  refine lv_topl (fun xv1 exv1 => ?_)
  refine lv_bipush (v := (10)) hx hb md_pack_2 (by decide) ?_
  refine lv_lshl (v := ((xv1) <<< (((10) : Int32).toInt64 &&& 63))) hx hb md_pack_4 rfl ?_
  refine lv_topl (fun xv2 exv2 => ?_)
  refine lv_iload_n hx hb md_pack_5 rfl (lv_at hl 1 rfl) ?_
  refine lv_i2l (v := (1000 : Int32).toInt64) hx hb md_pack_6 rfl ?_
  refine lv_topl (fun xv3 exv3 => ?_)
  refine lv_lor hx hb md_pack_7 ?_
  refine lv_topl (fun xv4 exv4 => ?_)
  refine lv_lstore (lv' := [(5, .long xv4), (0, .int 0), (1, .int 1000), (2, .int 0), (3, .int 0), (4, .int (-2))]) hx hb md_pack_8 hl (by decide) rfl (fun ls hl => ?_)
  refine lv_lload hx hb md_pack_10 (lv_at hl 0 rfl) ?_
  refine lv_bipush (v := (10)) hx hb md_pack_12 (by decide) ?_
  refine lv_lshl (v := ((xv4) <<< (((10) : Int32).toInt64 &&& 63))) hx hb md_pack_14 rfl ?_
  refine lv_topl (fun xv5 exv5 => ?_)
  refine lv_iload_n hx hb md_pack_15 rfl (lv_at hl 3 rfl) ?_
  refine lv_i2l (v := (0 : Int32).toInt64) hx hb md_pack_16 rfl ?_
  refine lv_topl (fun xv6 exv6 => ?_)
  refine lv_lor hx hb md_pack_17 ?_
  refine lv_topl (fun xv7 exv7 => ?_)
  refine lv_bipush (v := (8)) hx hb md_pack_18 (by decide) ?_
  refine lv_lshl (v := ((xv7) <<< (((8) : Int32).toInt64 &&& 63))) hx hb md_pack_20 rfl ?_
  refine lv_topl (fun xv8 exv8 => ?_)
  refine lv_iload_n hx hb md_pack_21 rfl (lv_at hl 4 rfl) ?_
  refine lv_bipush (v := (7)) hx hb md_pack_22 (by decide) ?_
  refine lv_ishl hx hb md_pack_24 ?_
  refine lv_topi (fun xv9 exv9 => ?_)
  refine lv_i2l (v := (xv9 : Int32).toInt64) hx hb md_pack_25 rfl ?_
  refine lv_topl (fun xv10 exv10 => ?_)
  refine lv_lor hx hb md_pack_26 ?_
  refine lv_topl (fun xv11 exv11 => ?_)
  refine lv_iload hx hb md_pack_27 (lv_at hl 5 rfl) ?_
  refine lv_iconst (v := (2)) hx hb md_pack_29 (by decide) ?_
  refine lv_iadd hx hb md_pack_30 ?_
  refine lv_i2l (v := (((-2) + (2)) : Int32).toInt64) hx hb md_pack_31 rfl ?_
  refine lv_topl (fun xv12 exv12 => ?_)
  refine lv_lor hx hb md_pack_32 ?_
  refine lv_topl (fun xv13 exv13 => ?_)
  exact W.lret (v := xv13) hx hb hr (fun t ht _ => rg_q (by rw [ht]; refine ⟨?_, rfl⟩; rw [exv13, exv12, exv11, exv10, exv9, exv8, exv7, exv6, exv5, exv4, exv3, exv2, exv1]; decide +kernel)) (by simp) md_pack_33
set_option maxHeartbeats 1000000 in
set_option maxRecDepth 100000 in
theorem c_placeOf {t0 : State} (hk : rK t0) (L : Int64) (hL : ¬ 0 ≤ lg_cmp 7 L) : RM t0 my_placeOf mb_placeOf 7 (some .int) 0 0 0 0 [.ref 61, .long L] (rHB) (fun H v H1 => v = some (.int 1) ∧ H1 = H) (fun _ => False) := by
  refine rg_body (by decide +kernel) (Nat.le_of_ble_eq_true rfl) (fun p e s m below meth c ls hx hb hml hr hlocks hown hname hW hB hl => ?_)
  have hl : lv_has ls 7 [(0, .ref 61), (1, .long L)] := hl
  refine lv_iconst (v := (0)) hx hb md_placeOf_0 (by decide) ?_
  refine lv_istore_n (lv' := [(3, .int (0)), (0, .ref 61), (1, .long L)]) hx hb md_placeOf_1 rfl hl (by decide) rfl (fun ls hl => ?_)
  refine lv_aload_n hx hb md_placeOf_2 rfl (lv_at hl 1 rfl) ?_
  refine rg_get hk hW hx hb (own := "TimeStore$Words")  hown qf_TimeStoreWords_size (by decide +kernel) (by decide +kernel) (v := .int 1) (rHB.at hB 3 rfl) 1 rfl md_placeOf_3 ?_
  refine lv_istore (lv' := [(4, .int 1), (3, .int (0)), (0, .ref 61), (1, .long L)]) hx hb md_placeOf_6 hl (by decide) rfl (fun ls hl => ?_)
  refine lv_iconst (v := (0)) hx hb md_placeOf_8 (by decide) ?_
  refine lv_istore (lv' := [(5, .int (0)), (4, .int 1), (3, .int (0)), (0, .ref 61), (1, .long L)]) hx hb md_placeOf_9 hl (by decide) rfl (fun ls hl => ?_)
  refine lv_iload_n hx hb md_placeOf_11 rfl (lv_at hl 2 rfl) ?_
  refine lv_iload hx hb md_placeOf_12 (lv_at hl 1 rfl) ?_
  refine lv_icmp_ge (tgt := 62) hx hb md_placeOf_14 (by decide) (fun h => absurd h (by decide)) (fun _ => ?_)
  refine lv_iload hx hb md_placeOf_17 (lv_at hl 0 rfl) ?_
  refine lv_bipush (v := (32)) hx hb md_placeOf_19 (by decide) ?_
  refine lv_icmp_ge (tgt := 62) hx hb md_placeOf_21 (by decide) (fun h => absurd h (by decide)) (fun _ => ?_)
  refine lv_iload_n hx hb md_placeOf_24 rfl (lv_at hl 2 rfl) ?_
  refine lv_iload hx hb md_placeOf_25 (lv_at hl 1 rfl) ?_
  refine lv_iadd hx hb md_placeOf_27 ?_
  refine lv_iconst (v := (2)) hx hb md_placeOf_28 (by decide) ?_
  refine lv_idiv hx hb md_placeOf_29 (by decide) ?_
  refine lv_istore (lv' := [(6, .int ((((0) + 1)) / ((2)))), (5, .int (0)), (4, .int 1), (3, .int (0)), (0, .ref 61), (1, .long L)]) hx hb md_placeOf_30 hl (by decide) rfl (fun ls hl => ?_)
  refine lv_aload_n hx hb md_placeOf_32 rfl (lv_at hl 4 rfl) ?_
  refine rg_get hk hW hx hb (own := "TimeStore$Words")  hown qf_TimeStoreWords_row (by decide +kernel) (by decide +kernel) (v := .ref 62) (rHB.at hB 3 rfl) 0 rfl md_placeOf_33 ?_
  refine lv_iload hx hb md_placeOf_36 (lv_at hl 0 rfl) ?_
  refine rg_lald hk hW hx hb (k := 51) (by decide +kernel) (v := .long 7) (rHB.at hB 4 rfl) 0 (by decide +kernel) (by decide +kernel) md_placeOf_38 ?_
  refine lv_lload_n hx hb md_placeOf_39 rfl (lv_at hl 5 rfl) ?_
  refine W.lcmp hx hb md_placeOf_40 ?_
  refine lv_if_ge (tgt := 52) hx hb md_placeOf_41 (by decide) (fun h => absurd h (hL)) (fun _ => ?_)
  refine lv_iload hx hb md_placeOf_44 (lv_at hl 0 rfl) ?_
  refine lv_iconst (v := (1)) hx hb md_placeOf_46 (by decide) ?_
  refine lv_iadd hx hb md_placeOf_47 ?_
  refine lv_istore_n (lv' := [(3, .int (((((0) + 1)) / ((2))) + (1))), (6, .int ((((0) + 1)) / ((2)))), (5, .int (0)), (4, .int 1), (0, .ref 61), (1, .long L)]) hx hb md_placeOf_48 rfl hl (by decide) rfl (fun ls hl => ?_)
  refine lv_goto (tgt := 56) hx hb md_placeOf_49 (by decide) ?_
  refine lv_iinc (v := ((0) + Int32.ofInt (1))) (lv' := [(5, .int ((0) + Int32.ofInt (1))), (3, .int (((((0) + 1)) / ((2))) + (1))), (6, .int ((((0) + 1)) / ((2)))), (4, .int 1), (0, .ref 61), (1, .long L)]) hx hb md_placeOf_56 hl (k := 2) rfl rfl (by decide) rfl (fun ls hl => ?_)
  refine lv_goto (tgt := 11) hx hb md_placeOf_59 (by decide) ?_
  refine lv_iload_n hx hb md_placeOf_11 rfl (lv_at hl 1 rfl) ?_
  refine lv_iload hx hb md_placeOf_12 (lv_at hl 3 rfl) ?_
  refine lv_icmp_ge (tgt := 62) hx hb md_placeOf_14 (by decide) (fun _ => ?_) (fun h => absurd (by decide +kernel) h)
  refine lv_iload_n hx hb md_placeOf_62 rfl (lv_at hl 1 rfl) ?_
  exact W.iret (v := (((((0) + 1)) / ((2))) + (1))) hx hb hr (fun t ht _ => rg_q (by rw [ht]; exact ⟨by decide +kernel, rfl⟩)) (by simp) md_placeOf_63
set_option maxHeartbeats 1000000 in
set_option maxRecDepth 100000 in
theorem c_first1 {t0 : State} (hk : rK t0) (P : Int32) (hP : P = 1) : RM t0 my_firstAb mb_firstAb 3 (some .int) 1 40 0 0 [.ref 61, .int 0, .int P] (rHB) (fun H v H1 => v = some (.int 1) ∧ H1 = H) (fun _ => False) := by
  refine rg_body (by decide +kernel) (Nat.le_of_ble_eq_true rfl) (fun p e s m below meth c ls hx hb hml hr hlocks hown hname hW hB hl => ?_)
  have hl : lv_has ls 3 [(0, .ref 61), (1, .int 0), (2, .int P)] := hl
  refine lv_aload_n hx hb md_firstAb_0 rfl (lv_at hl 0 rfl) ?_
  refine lv_iload_n hx hb md_firstAb_1 rfl (lv_at hl 1 rfl) ?_
  refine lv_iload_n hx hb md_firstAb_2 rfl (lv_at hl 2 rfl) ?_
  refine lv_iconst (v := (0)) hx hb md_firstAb_3 (by decide) ?_
  refine lv_iconst (v := (0)) hx hb md_firstAb_4 (by decide) ?_
  refine lv_bipush (v := (-2)) hx hb md_firstAb_5 (by decide) ?_
  refine rg_cs hk hW hx hb hml hl.1 (own := "TimeStore$Words") hown (rest := [.ref 61]) (c_pack1 hk P hP) (trivial) 5 rfl (by decide +kernel) ⟨by decide +kernel, by decide +kernel, by decide +kernel⟩ ⟨Nat.le_of_ble_eq_true rfl, Nat.le_of_ble_eq_true rfl⟩ (Nat.le_of_ble_eq_true rfl) ⟨Nat.le_of_ble_eq_true rfl, Nat.le_of_ble_eq_true rfl⟩ md_firstAb_7 rfl (fun v H1 L hp hL => ?_)
  obtain ⟨rfl, rfl⟩ := hp
  obtain rfl : L = [] := rg_nil hL
  refine W.eq (g2 := F0 m 10 ls [.long 262144, .ref 61]) rfl ?_
  refine rg_cv hk hW hx hb hml hl.1 (own := "TimeStore$Words") hown (rest := []) (c_placeOf hk 262144 (by decide +kernel)) qc_TimeStoreWords.2.2 (by decide +kernel) (rHB.at hB 3 rfl) (hB) 1 rfl (by decide +kernel) ⟨by decide +kernel, by decide +kernel, by decide +kernel⟩ ⟨Nat.le_of_ble_eq_true rfl, Nat.le_of_ble_eq_true rfl⟩ (Nat.le_of_ble_eq_true rfl) ⟨Nat.le_of_ble_eq_true rfl, Nat.le_of_ble_eq_true rfl⟩ md_firstAb_10 rfl (fun v H1 L hp hL => ?_)
  obtain ⟨rfl, rfl⟩ := hp
  obtain rfl : L = [] := rg_nil hL
  refine W.eq (g2 := F0 m 13 ls [.int 1]) rfl ?_
  exact W.iret (v := 1) hx hb hr (fun t ht _ => rg_q (by rw [ht]; exact ⟨rfl, rfl⟩)) (by simp) md_firstAb_13
set_option maxHeartbeats 1000000 in
set_option maxRecDepth 100000 in
theorem c_first2 {t0 : State} (hk : rK t0) (P : Int32) (hP : P = 1000) : RM t0 my_firstAb mb_firstAb 3 (some .int) 1 40 0 0 [.ref 61, .int 0, .int P] (rHB) (fun H v H1 => v = some (.int 1) ∧ H1 = H) (fun _ => False) := by
  refine rg_body (by decide +kernel) (Nat.le_of_ble_eq_true rfl) (fun p e s m below meth c ls hx hb hml hr hlocks hown hname hW hB hl => ?_)
  have hl : lv_has ls 3 [(0, .ref 61), (1, .int 0), (2, .int P)] := hl
  refine lv_aload_n hx hb md_firstAb_0 rfl (lv_at hl 0 rfl) ?_
  refine lv_iload_n hx hb md_firstAb_1 rfl (lv_at hl 1 rfl) ?_
  refine lv_iload_n hx hb md_firstAb_2 rfl (lv_at hl 2 rfl) ?_
  refine lv_iconst (v := (0)) hx hb md_firstAb_3 (by decide) ?_
  refine lv_iconst (v := (0)) hx hb md_firstAb_4 (by decide) ?_
  refine lv_bipush (v := (-2)) hx hb md_firstAb_5 (by decide) ?_
  refine rg_cs hk hW hx hb hml hl.1 (own := "TimeStore$Words") hown (rest := [.ref 61]) (c_pack2 hk P hP) (trivial) 5 rfl (by decide +kernel) ⟨by decide +kernel, by decide +kernel, by decide +kernel⟩ ⟨Nat.le_of_ble_eq_true rfl, Nat.le_of_ble_eq_true rfl⟩ (Nat.le_of_ble_eq_true rfl) ⟨Nat.le_of_ble_eq_true rfl, Nat.le_of_ble_eq_true rfl⟩ md_firstAb_7 rfl (fun v H1 L hp hL => ?_)
  obtain ⟨rfl, rfl⟩ := hp
  obtain rfl : L = [] := rg_nil hL
  refine W.eq (g2 := F0 m 10 ls [.long 262144000, .ref 61]) rfl ?_
  refine rg_cv hk hW hx hb hml hl.1 (own := "TimeStore$Words") hown (rest := []) (c_placeOf hk 262144000 (by decide +kernel)) qc_TimeStoreWords.2.2 (by decide +kernel) (rHB.at hB 3 rfl) (hB) 1 rfl (by decide +kernel) ⟨by decide +kernel, by decide +kernel, by decide +kernel⟩ ⟨Nat.le_of_ble_eq_true rfl, Nat.le_of_ble_eq_true rfl⟩ (Nat.le_of_ble_eq_true rfl) ⟨Nat.le_of_ble_eq_true rfl, Nat.le_of_ble_eq_true rfl⟩ md_firstAb_10 rfl (fun v H1 L hp hL => ?_)
  obtain ⟨rfl, rfl⟩ := hp
  obtain rfl : L = [] := rg_nil hL
  refine W.eq (g2 := F0 m 13 ls [.int 1]) rfl ?_
  exact W.iret (v := 1) hx hb hr (fun t ht _ => rg_q (by rw [ht]; exact ⟨rfl, rfl⟩)) (by simp) md_firstAb_13
set_option maxHeartbeats 1000000 in
set_option maxRecDepth 100000 in
theorem c_endPer {t0 : State} (hk : rK t0) : RM t0 my_endPer mb_endPer 6 (some .int) 2 80 0 0 [.ref 59, .ref 101, .int 0] (rHB) (fun H v H1 => v = some (.int (-9)) ∧ H1 = H) (fun _ => False) := by
  refine rg_body (by decide +kernel) (Nat.le_of_ble_eq_true rfl) (fun p e s m below meth c ls hx hb hml hr hlocks hown hname hW hB hl => ?_)
  have hl : lv_has ls 6 [(0, .ref 59), (1, .ref 101), (2, .int 0)] := hl
  refine lv_aload_n hx hb md_endPer_0 rfl (lv_at hl 0 rfl) ?_
  refine lv_aload_n hx hb md_endPer_1 rfl (lv_at hl 1 rfl) ?_
  refine rg_getN hk hW hx hb (own := "TimeStore") (host := "TimeStore") hown qf_TimeStoreWindow_store (by decide +kernel) (by decide +kernel) (v := .int 0) (rHB.at hB 1 rfl) 0 rfl md_endPer_2 ?_
  refine rg_cv hk hW hx hb hml hl.1 (own := "TimeStore") hown (rest := []) (c_storeAt hk) qc_TimeStore.2.2 (by decide +kernel) (rHB.at hB 0 rfl) (hB) 1 rfl (by decide +kernel) ⟨by decide +kernel, by decide +kernel, by decide +kernel⟩ ⟨Nat.le_of_ble_eq_true rfl, Nat.le_of_ble_eq_true rfl⟩ (Nat.le_of_ble_eq_true rfl) ⟨Nat.le_of_ble_eq_true rfl, Nat.le_of_ble_eq_true rfl⟩ md_endPer_5 rfl (fun v H1 L hp hL => ?_)
  obtain ⟨rfl, rfl⟩ := hp
  obtain rfl : L = [] := rg_nil hL
  refine W.eq (g2 := F0 m 8 ls [.ref 60]) rfl ?_
  refine rg_getN hk hW hx hb (own := "TimeStore") (host := "TimeStore") hown qf_TimeStoreStore_words (by decide +kernel) (by decide +kernel) (v := .ref 61) (rHB.at hB 2 rfl) 0 rfl md_endPer_8 ?_
  refine lv_astore_n (lv' := [(3, .ref 61), (0, .ref 59), (1, .ref 101), (2, .int 0)]) hx hb md_endPer_11 rfl hl (by decide) rfl (fun ls hl => ?_)
  refine lv_aload_n hx hb md_endPer_12 rfl (lv_at hl 0 rfl) ?_
  refine lv_aload_n hx hb md_endPer_13 rfl (lv_at hl 2 rfl) ?_
  refine rg_getN hk hW hx hb (own := "TimeStore") (host := "TimeStore") hown qf_TimeStoreWindow_key (by decide +kernel) (by decide +kernel) (v := .int 0) (rHB.at hB 1 rfl) 1 rfl md_endPer_14 ?_
  refine lv_aload_n hx hb md_endPer_17 rfl (lv_at hl 2 rfl) ?_
  refine rg_getN hk hW hx hb (own := "TimeStore") (host := "TimeStore") hown qf_TimeStoreWindow_from (by decide +kernel) (by decide +kernel) (v := .int 1) (rHB.at hB 1 rfl) 2 rfl md_endPer_18 ?_
  refine rg_cv hk hW hx hb hml hl.1 (own := "TimeStore") hown (rest := []) (c_first1 hk 1 rfl) qc_TimeStoreWords.2.2 (by decide +kernel) (rHB.at hB 3 rfl) (hB) 2 rfl (by decide +kernel) ⟨by decide +kernel, by decide +kernel, by decide +kernel⟩ ⟨Nat.le_of_ble_eq_true rfl, Nat.le_of_ble_eq_true rfl⟩ (Nat.le_of_ble_eq_true rfl) ⟨Nat.le_of_ble_eq_true rfl, Nat.le_of_ble_eq_true rfl⟩ md_endPer_21 rfl (fun v H1 L hp hL => ?_)
  obtain ⟨rfl, rfl⟩ := hp
  obtain rfl : L = [] := rg_nil hL
  refine W.eq (g2 := F0 m 24 ls [.int 1]) rfl ?_
  refine lv_istore (lv' := [(4, .int 1), (3, .ref 61), (0, .ref 59), (1, .ref 101), (2, .int 0)]) hx hb md_endPer_24 hl (by decide) rfl (fun ls hl => ?_)
  refine lv_aload_n hx hb md_endPer_26 rfl (lv_at hl 1 rfl) ?_
  refine lv_aload_n hx hb md_endPer_27 rfl (lv_at hl 3 rfl) ?_
  refine rg_getN hk hW hx hb (own := "TimeStore") (host := "TimeStore") hown qf_TimeStoreWindow_key (by decide +kernel) (by decide +kernel) (v := .int 0) (rHB.at hB 1 rfl) 1 rfl md_endPer_28 ?_
  refine lv_aload_n hx hb md_endPer_31 rfl (lv_at hl 3 rfl) ?_
  refine rg_getN hk hW hx hb (own := "TimeStore") (host := "TimeStore") hown qf_TimeStoreWindow_to (by decide +kernel) (by decide +kernel) (v := .int 999) (rHB.at hB 1 rfl) 3 rfl md_endPer_32 ?_
  refine lv_iconst (v := (1)) hx hb md_endPer_35 (by decide) ?_
  refine lv_iadd hx hb md_endPer_36 ?_
  refine rg_cv hk hW hx hb hml hl.1 (own := "TimeStore") hown (rest := []) (c_first2 hk (999 + (1)) (by decide)) qc_TimeStoreWords.2.2 (by decide +kernel) (rHB.at hB 3 rfl) (hB) 2 rfl (by decide +kernel) ⟨by decide +kernel, by decide +kernel, by decide +kernel⟩ ⟨Nat.le_of_ble_eq_true rfl, Nat.le_of_ble_eq_true rfl⟩ (Nat.le_of_ble_eq_true rfl) ⟨Nat.le_of_ble_eq_true rfl, Nat.le_of_ble_eq_true rfl⟩ md_endPer_37 rfl (fun v H1 L hp hL => ?_)
  obtain ⟨rfl, rfl⟩ := hp
  obtain rfl : L = [] := rg_nil hL
  refine W.eq (g2 := F0 m 40 ls [.int 1]) rfl ?_
  refine lv_istore (lv' := [(5, .int 1), (4, .int 1), (3, .ref 61), (0, .ref 59), (1, .ref 101), (2, .int 0)]) hx hb md_endPer_40 hl (by decide) rfl (fun ls hl => ?_)
  refine lv_iload hx hb md_endPer_42 (lv_at hl 1 rfl) ?_
  refine lv_iload hx hb md_endPer_44 (lv_at hl 0 rfl) ?_
  refine lv_icmp_lt (tgt := 52) hx hb md_endPer_46 (by decide) (fun h => absurd h (by decide)) (fun _ => ?_)
  refine lv_bipush (v := (-9)) hx hb md_endPer_49 (by decide) ?_
  exact W.iret (v := (-9)) hx hb hr (fun t ht _ => rg_q (by rw [ht]; exact ⟨rfl, rfl⟩)) (by simp) md_endPer_51
set_option maxHeartbeats 1000000 in
set_option maxRecDepth 100000 in
theorem c_cofWin {t0 : State} (hk : rK t0) : RM t0 my_cofWin mb_cofWin 4 (some .int) 3 140 0 0 [.ref 59, .int 0, .int 5] (rHB) (fun H v H1 => v = some (.int (-9)) ∧ H1 = H) (fun _ => False) := by
  refine rg_body (by decide +kernel) (Nat.le_of_ble_eq_true rfl) (fun p e s m below meth c ls hx hb hml hr hlocks hown hname hW hB hl => ?_)
  have hl : lv_has ls 4 [(0, .ref 59), (1, .int 0), (2, .int 5)] := hl
  refine lv_aload_n hx hb md_cofWin_0 rfl (lv_at hl 0 rfl) ?_
  refine lv_iload_n hx hb md_cofWin_1 rfl (lv_at hl 1 rfl) ?_
  refine rg_cv hk hW hx hb hml hl.1 (own := "TimeStore") hown (rest := []) (c_needWin hk) qc_TimeStore.2.2 (by decide +kernel) (rHB.at hB 0 rfl) (hB) 1 rfl (by decide +kernel) ⟨by decide +kernel, by decide +kernel, by decide +kernel⟩ ⟨Nat.le_of_ble_eq_true rfl, Nat.le_of_ble_eq_true rfl⟩ (Nat.le_of_ble_eq_true rfl) ⟨Nat.le_of_ble_eq_true rfl, Nat.le_of_ble_eq_true rfl⟩ md_cofWin_2 rfl (fun v H1 L hp hL => ?_)
  obtain ⟨rfl, rfl⟩ := hp
  obtain rfl : L = [] := rg_nil hL
  refine W.eq (g2 := F0 m 5 ls []) rfl ?_
  refine lv_iload_n hx hb md_cofWin_5 rfl (lv_at hl 2 rfl) ?_
  refine lv_bipush (v := (6)) hx hb md_cofWin_6 (by decide) ?_
  refine rg_cs hk hW hx hb hml hl.1 (own := "TimeStore") hown (rest := []) (c_needWhat hk) (trivial) 2 rfl (by decide +kernel) ⟨by decide +kernel, by decide +kernel, by decide +kernel⟩ ⟨Nat.le_of_ble_eq_true rfl, Nat.le_of_ble_eq_true rfl⟩ (Nat.le_of_ble_eq_true rfl) ⟨Nat.le_of_ble_eq_true rfl, Nat.le_of_ble_eq_true rfl⟩ md_cofWin_8 rfl (fun v H1 L hp hL => ?_)
  obtain ⟨rfl, rfl⟩ := hp
  obtain rfl : L = [] := rg_nil hL
  refine W.eq (g2 := F0 m 11 ls []) rfl ?_
  refine lv_aload_n hx hb md_cofWin_11 rfl (lv_at hl 0 rfl) ?_
  refine rg_get hk hW hx hb (own := "TimeStore")  hown qf_TimeStore_windows (by decide +kernel) (by decide +kernel) (v := .ref 100) (rHB.at hB 0 rfl) 1 rfl md_cofWin_12 ?_
  refine lv_iload_n hx hb md_cofWin_15 rfl (lv_at hl 1 rfl) ?_
  refine rg_aald hk hW hx hb (k := 55) (.object "TimeStore$Window") (by decide +kernel) rfl (v := .ref 101) (rHB.at hB 5 rfl) 0 rfl (by decide) md_cofWin_16 ?_
  refine lv_astore_n (lv' := [(3, .ref 101), (0, .ref 59), (1, .int 0), (2, .int 5)]) hx hb md_cofWin_17 rfl hl (by decide) rfl (fun ls hl => ?_)
  refine lv_iload_n hx hb md_cofWin_18 rfl (lv_at hl 3 rfl) ?_
  refine lv_tableOut (tgt := 78) hx hb md_cofWin_19 (Or.inr (by decide)) (by decide) ?_
  refine lv_aload_n hx hb md_cofWin_78 rfl (lv_at hl 1 rfl) ?_
  refine lv_aload_n hx hb md_cofWin_79 rfl (lv_at hl 0 rfl) ?_
  refine lv_iload_n hx hb md_cofWin_80 rfl (lv_at hl 3 rfl) ?_
  refine lv_bipush (v := (6)) hx hb md_cofWin_81 (by decide) ?_
  refine lv_icmp_ne (tgt := 90) hx hb md_cofWin_83 (by decide) (fun _ => ?_) (fun h => absurd h (by decide))
  refine lv_iconst (v := (0)) hx hb md_cofWin_90 (by decide) ?_
  refine rg_cv hk hW hx hb hml hl.1 (own := "TimeStore") hown (rest := []) (c_endPer hk) qc_TimeStore.2.2 (by decide +kernel) (rHB.at hB 0 rfl) (hB) 2 rfl (by decide +kernel) ⟨by decide +kernel, by decide +kernel, by decide +kernel⟩ ⟨Nat.le_of_ble_eq_true rfl, Nat.le_of_ble_eq_true rfl⟩ (Nat.le_of_ble_eq_true rfl) ⟨Nat.le_of_ble_eq_true rfl, Nat.le_of_ble_eq_true rfl⟩ md_cofWin_91 rfl (fun v H1 L hp hL => ?_)
  obtain ⟨rfl, rfl⟩ := hp
  obtain rfl : L = [] := rg_nil hL
  refine W.eq (g2 := F0 m 94 ls [.int (-9)]) rfl ?_
  exact W.iret (v := (-9)) hx hb hr (fun t ht _ => rg_q (by rw [ht]; exact ⟨rfl, rfl⟩)) (by simp) md_cofWin_94
