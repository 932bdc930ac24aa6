theorem rf_run : rf_un start1.p0.tables start1.e0 2600 (rf_S 400) (fun t => rf_K1 t && rf_K2 t) = true := by decide +kernel
theorem rf_long : ∃ t, Steps start1.p0.tables start1.e0 Lib.HandBits.below0 (rf_S 400) t ∧ t.heap.size = 800548 := by
  obtain ⟨T, h1, h2⟩ := rf_un_eq 2600 (rf_S 400) rf_run
  obtain ⟨t, h3, h4⟩ := rf_walk h1 h2
  exact ⟨t, h1.trans h3, h4⟩
/-- Claimed_1_1 is false: 400 calls of ofWindow(0, 5) leave more cells than it promises -/
theorem rf_not : ¬ Claimed_1_1 := by
  intro h
  obtain ⟨hl, hw, ha, -, hc, hk, hf, hg, hh, hp, c1, c2, c3⟩ := rf_start
  obtain ⟨n, o, w1, w2, w3, w4⟩ := h launch0 rfl hl hw start1.p0 start1.e0 ha hc hk (rf_S 400) ⟨0, 0⟩ start1.args0 Lib.HandBits.below0 hf hg hh hp ⟨c1, c2, c3⟩
  obtain ⟨t, ⟨N, e1, e2⟩, e3⟩ := rf_long
  have hN : N ≤ n := Nat.le_of_not_lt (fun hlt => w3.not_within (e2 n hlt))
  obtain ⟨d, rfl⟩ : ∃ d, n = N + d := ⟨n - N, by omega⟩
  have hgrow := (stepsAlone_heap_grows_add start1.p0.tables start1.e0 N d (rf_S 400)).1
  rw [e1, e3] at hgrow
  have hfr : (stepsAlone start1.p0.tables start1.e0 (N + d) (rf_S 400)).heap.size ≤ (rf_S 400).heap.size + 798931 := w4.2.2.2.2.2.1
  have h59 : (rf_S 400).heap.size = 59 := rfl
  omega
theorem i_vc : Claimed_1_1 ∧ Claimed_1_2 := sorry
