/-! THE LAW over the script's 400 calls -/
/-- the script's cell -/
def rSc (H : Heap) : Prop := ∃ c : Cell, H[0]? = some c ∧ c.cls = 49 ∧ c.vm = .none ∧ c.slots = rf_scr 400
theorem rSc.kept {H H1 : Heap} (h : rSc H) (e : H1[0]? = H[0]?) : rSc H1 := by
  obtain ⟨c, h1, h2⟩ := h
  exact ⟨c, e.trans h1, h2⟩
theorem rf_flat : ∀ (n k j : Nat), k < n → j < 6 → ((List.replicate n ([41, 0, 5, 0, 0, 0] : List Int32)).flatten)[6 * k + j]? = ([41, 0, 5, 0, 0, 0] : List Int32)[j]?
  | 0, k, j, h, _ => absurd h (Nat.not_lt_zero k)
  | n + 1, 0, j, _, hj => by
    rw [List.replicate_succ, List.flatten_cons, List.getElem?_append_left (by simp only [List.length_cons, List.length_nil]; omega)]
    simp
  | n + 1, k + 1, j, h, hj => by
    rw [List.replicate_succ, List.flatten_cons, List.getElem?_append_right (by simp only [List.length_cons, List.length_nil]; omega), ← rf_flat n k j (by omega) hj]
    congr 1
    simp only [List.length_cons, List.length_nil]
    omega
theorem rf_scr_at (k j : Nat) (hk : k < 400) (hj : j < 6) : (rf_scr 400)[12 + 6 * k + j]? = (([41, 0, 5, 0, 0, 0] : List Int32)[j]?).map Value.int := by
  have h1 : (rf_scr 400)[12 + 6 * k + j]? = ((rf_ints 400).map Value.int)[12 + 6 * k + j]? := by simp only [rf_scr, List.getElem?_toArray]
  rw [h1, List.getElem?_map]
  refine congrArg (Option.map Value.int) ?_
  unfold rf_ints
  rw [List.getElem?_append_right (by simp only [List.length_cons, List.length_nil]; omega), ← rf_flat 400 k j hk hj]
  have h2 : ∀ (l : List Int32) (x y : Nat), x = y → l[x]? = l[y]? := fun l x y h => by rw [h]
  exact h2 _ _ _ (by simp only [List.length_cons, List.length_nil]; omega)
theorem rf_scr_size : (rf_scr 400).size = 2412 := by decide +kernel
theorem rSc.at {H : Heap} (h : rSc H) {k : Nat} (hk : k < 400) : rc_at H 0 49 2412 [(12 + 6 * k, .int 41), (12 + 6 * k + 1, .int 0), (12 + 6 * k + 2, .int 5)] := by
  obtain ⟨c, h1, h2, h3, h4⟩ := h
  refine ⟨c, h1, h2, h3, by rw [h4]; exact rf_scr_size, fun q hq => ?_⟩
  rw [h4]
  simp only [List.mem_cons, List.not_mem_nil, or_false] at hq
  rcases hq with rfl | rfl | rfl
  · exact rf_scr_at k 0 hk (by decide)
  · exact rf_scr_at k 1 hk (by decide)
  · exact rf_scr_at k 2 hk (by decide)
abbrev rR9 : Room := rRm 8 300 800400 2801200
set_option maxHeartbeats 1000000 in
set_option maxRecDepth 100000 in
/-- the law's loop over 400 calls: each leaves 2001 new cells -/
theorem l_law {t0 : State} (hk : rK t0) {p : Program} {e : Env} {s : State} {m : MethodId} {args : Array Value} {below : List Frame} {meth : Method} {c : Code} {Q : State → Prop} (hx : p.tables.exec = Jvm.exec) (hb : c.code = mb_law) (hml : c.maxLocals = 7) (hown : s.vm.findClass "TimeStoreLaw" = some m.cls) (hW : t0.WarmedH s.vm)
    (hend : ∀ (H : Heap) (ls : Array Slot) (locs : List Loc) (C S : Nat), H.size = 148 + 2001 * 400 → W p launch0 e rR9 s m args below meth c H locs C S Q (F0 m 27 ls [])) :
    ∀ (d k : Nat), d + k = 400 → ∀ (H : Heap) (ls : Array Slot) (locs : List Loc) (C S : Nat), C = 2001 * k → S = 7003 * k → H.size = 148 + 2001 * k → rHB H → rc_at H 140 10 2 [] → rSc H →
      lv_has ls 7 [(4, .int (nI (12 + 6 * k))), (0, .ref 0), (1, .ref 59), (2, .ref 126), (3, .ref 140)] → W p launch0 e rR9 s m args below meth c H locs C S Q (F0 m 27 ls []) := by
  intro d
  induction d with
  | zero =>
    intro k hdk H ls locs C S hC hS hz hR hO hSc hl
    obtain rfl : k = 400 := by omega
    exact hend H ls locs C S hz
  | succ d ih =>
    intro k hdk H ls locs C S hC hS hz hR hO hSc hl
    have hA := hSc.at (show k < 400 by omega)
    have e1 : nI (12 + 6 * k) + (1) = nI (12 + 6 * k + 1) := nI_1 _
    have e2 : nI (12 + 6 * k) + (2) = nI (12 + 6 * k + 2) := nI_add _ 2
    have e6 : nI (12 + 6 * k) + Int32.ofInt (6) = nI (12 + 6 * (k + 1)) := by
      rw [show 12 + 6 * (k + 1) = 12 + 6 * k + 6 by omega]
      exact nI_add _ 6
    have q0 : ¬ (nI (12 + 6 * k) < 0 ∨ 2412 ≤ (nI (12 + 6 * k)).toNatClampNeg) := nI_in (by omega) (by omega)
    have q1 : ¬ (nI (12 + 6 * k) + (1) < 0 ∨ 2412 ≤ (nI (12 + 6 * k) + (1)).toNatClampNeg) := by rw [e1]; exact nI_in (by omega) (by omega)
    have q2 : ¬ (nI (12 + 6 * k) + (2) < 0 ∨ 2412 ≤ (nI (12 + 6 * k) + (2)).toNatClampNeg) := by rw [e2]; exact nI_in (by omega) (by omega)
    have c0 : (nI (12 + 6 * k)).toNatClampNeg = 12 + 6 * k := nI_clamp (by omega)
    have c1 : (nI (12 + 6 * k) + (1)).toNatClampNeg = 12 + 6 * k + 1 := by rw [e1]; exact nI_clamp (by omega)
    have c2 : (nI (12 + 6 * k) + (2)).toNatClampNeg = 12 + 6 * k + 2 := by rw [e2]; exact nI_clamp (by omega)
    have hle : ¬ (2412 - (6) : Int32) < nI (12 + 6 * k) := nI_nlt (a := 2406) (b := 12 + 6 * k) (by omega) (by omega)
    refine lv_iload hx hb md_law_27 (lv_at hl 0 rfl) ?_
    refine lv_aload_n hx hb md_law_29 rfl (lv_at hl 1 rfl) ?_
    refine rg_alen hk hW hx hb (k := 49) .int (by decide +kernel) (v := 2412) hA rfl md_law_30 ?_
    refine lv_bipush (v := (6)) hx hb md_law_31 (by decide) ?_
    refine lv_isub hx hb md_law_33 ?_
    refine lv_icmp_gt (tgt := 3075) hx hb md_law_34 (by decide) (fun h => absurd h (hle)) (fun _ => ?_)
    refine lv_aload_n hx hb md_law_37 rfl (lv_at hl 1 rfl) ?_
    refine lv_iload hx hb md_law_38 (lv_at hl 0 rfl) ?_
    refine rg_iald hk hW hx hb (k := 49) (by decide +kernel) (v := .int 41) hA 0 (by rw [c0]; rfl) q0 md_law_40 ?_
    refine lv_bipush (v := (63)) hx hb md_law_41 (by decide) ?_
    refine lv_iand hx hb md_law_43 ?_
    refine lv_tableIn (off := 2206) (tgt := 2250) hx hb md_law_44 (by decide) (by decide) (by decide) (by decide) ?_
    refine lv_aload_n hx hb md_law_2250 rfl (lv_at hl 2 rfl) ?_
    refine lv_aload_n hx hb md_law_2251 rfl (lv_at hl 1 rfl) ?_
    refine lv_iload hx hb md_law_2252 (lv_at hl 0 rfl) ?_
    refine lv_iconst (v := (1)) hx hb md_law_2254 (by decide) ?_
    refine lv_iadd hx hb md_law_2255 ?_
    refine rg_iald hk hW hx hb (k := 49) (by decide +kernel) (v := .int 0) hA 1 (by rw [c1]; rfl) q1 md_law_2256 ?_
    refine lv_aload_n hx hb md_law_2257 rfl (lv_at hl 1 rfl) ?_
    refine lv_iload hx hb md_law_2258 (lv_at hl 0 rfl) ?_
    refine lv_iconst (v := (2)) hx hb md_law_2260 (by decide) ?_
    refine lv_iadd hx hb md_law_2261 ?_
    refine rg_iald hk hW hx hb (k := 49) (by decide +kernel) (v := .int 5) hA 2 (by rw [c2]; rfl) q2 md_law_2262 ?_
    refine lv_aload_n hx hb md_law_2263 rfl (lv_at hl 4 rfl) ?_
    refine rg_csw hk hW hx hb hml hl.1 (own := "TimeStoreLaw") hown (rest := []) (c_lofWin hk) ⟨hR, hO⟩ 4 rfl (by decide +kernel) ⟨by decide +kernel, by decide +kernel, by decide +kernel⟩ ⟨Nat.le_of_ble_eq_true rfl, Nat.le_of_ble_eq_true rfl⟩ (Nat.le_of_ble_eq_true rfl) ⟨by show C + 0 ≤ 800400; omega, by show S + 0 ≤ 2801200; omega⟩ md_law_2264 rfl (fun v H1 L1 hp hL1 => ?_)
    obtain ⟨r1, rfl, z1, k1, o1⟩ := hp
    refine W.eq (g2 := F0 m 2267 ls [.int r1]) rfl ?_
    have hR1 : rHB H1 := hR.kept (by omega) (fun q _ hne => k1 q hne)
    have hA1 := hA.kept (k1 0 (by decide))
    refine lv_istore (lv' := [(5, .int r1), (4, .int (nI (12 + 6 * k))), (0, .ref 0), (1, .ref 59), (2, .ref 126), (3, .ref 140)]) hx hb md_law_2267 hl (by decide) rfl (fun ls hl => ?_)
    refine lv_aload_n hx hb md_law_2269 rfl (lv_at hl 4 rfl) ?_
    refine lv_aload_n hx hb md_law_2270 rfl (lv_at hl 2 rfl) ?_
    refine lv_iload hx hb md_law_2271 (lv_at hl 1 rfl) ?_
    refine lv_iconst (v := (1)) hx hb md_law_2273 (by decide) ?_
    refine lv_iadd hx hb md_law_2274 ?_
    refine rg_iald hk hW hx hb (k := 49) (by decide +kernel) (v := .int 0) hA1 1 (by rw [c1]; rfl) q1 md_law_2275 ?_
    refine lv_aload_n hx hb md_law_2276 rfl (lv_at hl 2 rfl) ?_
    refine lv_iload hx hb md_law_2277 (lv_at hl 1 rfl) ?_
    refine lv_iconst (v := (2)) hx hb md_law_2279 (by decide) ?_
    refine lv_iadd hx hb md_law_2280 ?_
    refine rg_iald hk hW hx hb (k := 49) (by decide +kernel) (v := .int 5) hA1 2 (by rw [c2]; rfl) q2 md_law_2281 ?_
    refine rg_cv hk hW hx hb hml hl.1 (own := "TimeStoreLaw") hown (rest := []) (c_mofWin hk H1.size) qc_TimeStoreModel.2.2 (by decide +kernel) (rHB.at hR1 6 rfl) (⟨rfl, hR1⟩) 2 rfl (by decide +kernel) ⟨by decide +kernel, by decide +kernel, by decide +kernel⟩ ⟨Nat.le_of_ble_eq_true rfl, Nat.le_of_ble_eq_true rfl⟩ (Nat.le_of_ble_eq_true rfl) ⟨by show C + 0 + 2001 ≤ 800400; omega, by show S + 0 + 7003 ≤ 2801200; omega⟩ md_law_2282 rfl (fun v H2 L2 hp hL2 => ?_)
    obtain ⟨r2, rfl, z2, k2⟩ := hp
    refine W.eq (g2 := F0 m 2285 ls [.int r2]) rfl ?_
    refine lv_istore (lv' := [(6, .int r2), (5, .int r1), (4, .int (nI (12 + 6 * k))), (0, .ref 0), (1, .ref 59), (2, .ref 126), (3, .ref 140)]) hx hb md_law_2285 hl (by decide) rfl (fun ls hl => ?_)
    refine lv_goto (tgt := 3069) hx hb md_law_2287 (by decide) ?_
    refine lv_iinc (v := ((nI (12 + 6 * k)) + Int32.ofInt (6))) (lv' := [(4, .int ((nI (12 + 6 * k)) + Int32.ofInt (6))), (6, .int r2), (5, .int r1), (0, .ref 0), (1, .ref 59), (2, .ref 126), (3, .ref 140)]) hx hb md_law_3069 hl (k := 2) rfl rfl (by decide) rfl (fun ls hl => ?_)
    refine lv_goto (tgt := 27) hx hb md_law_3072 (by decide) ?_
    rw [e6] at hl
    have h148 := hR1.1
    exact ih (k + 1) (by omega) H2 ls _ _ _ (by omega) (by omega) (by omega) (hR1.kept (by omega) (fun q h _ => k2 q h)) (o1.kept (k2 140 (by omega))) ((hSc.kept (k1 0 (by decide))).kept (k2 0 (by omega))) (rv_sub hl [0, 3, 4, 5, 6] rfl)
