/-! RULES that keep what is written (a law that compares ofWindow's answers) -/
theorem rI.rc {H : Heap} {a n : Nat} (h : rI H a n) : rc_at H a 49 n [] := by
  obtain ⟨c, h1, h2, h3, h4, -⟩ := h
  exact ⟨c, h1, h2, h3, h4, fun z hz => absurd hz List.not_mem_nil⟩
section RF
variable {t0 : State} {p : Program} {e : Env} {R : Room} {s : State} {m : MethodId} {args : Array Value} {below : List Frame} {meth : Method} {c : Code} {H : Heap} {locs : List Loc} {cells slots : Nat} {Q : State → Prop} {cc : ByteArray} {pc : Nat} {ls : Array Slot} {rest : List Value}
theorem rg_iastC (hk : rK t0) (hW : t0.WarmedH s.vm) (hx : p.tables.exec = Jvm.exec) (hb : c.code = cc) {a n : Nat} {i x : Int32} {vs : List (Nat × Value)} (hA : (49, FieldType.int) ∈ rf_AL) (hc : rc_at H a 49 n vs) (hin : ¬ (i < 0 ∨ n ≤ i.toNatClampNeg)) (j : Nat) (hj : i.toNatClampNeg = j) (hd : decode cc pc = .ok (.iastore, 1))
    (kk : ∀ (H1 : Heap) (z : Nat), H1.size = H.size → (∀ x, x ≠ a → H1[x]? = H[x]?) → rc_at H1 a 49 n ((j, .int x) :: vs.filter (fun z => z.1 != j)) → W p launch0 e R s m args below meth c H1 (locs ++ [⟨a, z⟩]) cells slots Q (F0 m (pc + 1) ls rest)) : W p launch0 e R s m args below meth c H locs cells slots Q (F0 m pc ls (.int x :: .int i :: .ref a :: rest)) := by
  obtain ⟨cell, h1, h2, h3, h4, h5⟩ := hc
  have hlt : j < n := by rw [← hj]; exact Nat.lt_of_not_le (fun h => hin (Or.inr h))
  refine W.iast hx hb h1 (rg_isA hk hW hA h2 h3) (by rw [h3]; exact fun h => by cases h) (by rw [h4]; exact hin) rfl rfl hd (fun H' g1 g2 g3 => kk H' _ g2 g3 ⟨_, g1, h2, h3, ?_, fun z hz => ?_⟩)
  · show (cell.slots.setIfInBounds _ _).size = n
    rw [Array.size_setIfInBounds]; exact h4
  · rw [hj]
    rcases List.mem_cons.mp hz with rfl | hz
    · exact Cell.slots_setSlot_self (.int x) (by rw [h4]; exact hlt)
    · obtain ⟨z1, z2⟩ := List.mem_filter.mp hz
      have hne : z.1 ≠ j := by simpa using z2
      rw [slot_ne _ _ (Ne.symm hne)]
      exact h5 z z1
theorem rg_putNC (hk : rK t0) (hW : t0.WarmedH s.vm) (hx : p.tables.exec = Jvm.exec) (hb : c.code = cc) {own host : String} (hown : s.vm.findClass own = some m.cls) {idx a n : Nat} (q : rf_Fd) (hq : q ∈ rf_FL) (hl : Cond.fieldLinkNest own idx q.1 q.2.1 q.2.2.1 host ∈ rf_W) (cl : String × Nat × List FieldType) (hcl : cl ∈ rf_CL) (hty : cl.2.2[q.2.2.2.1]? = some q.2.2.2.2.2.2) (hsz : n = cl.2.2.length)
    (hfin : q.2.2.2.2.2.1 = false) {vs : List (Nat × Value)} {v : Value} (hc : rc_at H a cl.2.1 n vs) (hn : narrow q.2.2.2.2.2.2 v = v) (hf : fits q.2.2.2.2.2.2 v = true) (hd : decode cc pc = .ok (.putfield idx, 3))
    (kk : ∀ H1 : Heap, H1.size = H.size → (∀ x, x ≠ a → H1[x]? = H[x]?) → rc_at H1 a cl.2.1 n ((q.2.2.2.1, v) :: vs.filter (fun z => z.1 != q.2.2.2.1)) → W p launch0 e R s m args below meth c H1 (locs ++ [⟨a, q.2.2.2.1⟩]) cells slots Q (F0 m (pc + 3) ls rest)) : W p launch0 e R s m args below meth c H locs cells slots Q (F0 m pc ls (v :: .ref a :: rest)) := by
  obtain ⟨k', i, f, hi, hst, hsl, hfl, hft⟩ := rg_fld hk hW hq
  obtain ⟨hfc, kC, hkC, hkind, htys⟩ := rg_cls hk hW hcl
  obtain ⟨cell, h1, h2, h3, h4, h5⟩ := hc
  have hlt : f.slot < cell.slots.size := by
    rw [hsl, h4, hsz]
    exact (List.getElem?_eq_some_iff.mp hty).1
  have hit : kC.instanceTypes[f.slot]? = some f.type := by
    rw [hsl, hft, ← Array.getElem?_toList, htys]; exact hty
  have hfs : s.fitsSlot cell.cls cell.vm f.slot v = true := by
    rw [h2, h3]
    exact fresh_fits (s := s) (U := s) (Vm.Alike.refl _) hkC hkind hit (by rw [hft]; exact hf)
  refine va_Wputf hx hb hown (rw_at hk hW hl _) hi hst (Or.inl (by rw [hfl]; exact hfin)) h1 (by rw [h3]; exact fun h => by cases h) hlt (by rw [hft]; exact hn) hfs rfl rfl hd ?_
  rw [hsl]
  have ha : a < H.size := (Array.getElem?_eq_some_iff.mp h1).1
  refine kk _ (by simp) (fun x hx => by simp [Array.getElem?_setIfInBounds, Ne.symm hx]) ⟨cell.setSlot q.2.2.2.1 v, by simp [Array.getElem?_setIfInBounds, ha], h2, h3, ?_, ?_⟩
  · show (cell.slots.setIfInBounds _ _).size = n
    rw [Array.size_setIfInBounds]; exact h4
  · intro z hz
    rcases List.mem_cons.mp hz with rfl | hz
    · exact Cell.slots_setSlot_self v (by rw [← hsl]; exact hlt)
    · obtain ⟨z1, z2⟩ := List.mem_filter.mp hz
      have hne : z.1 ≠ q.2.2.2.1 := by simpa using z2
      rw [slot_ne _ _ (Ne.symm hne)]
      exact h5 z z1
end RF
