/-! THE START with the script of 400 calls -/
theorem rf_S_vm : (rf_S 400).vm = start1.about.vm := rfl
theorem rf_word {c : Cond} (hc : c.onTables = true) (h : c.before start1.args0 start1.about = true) : c.before start1.args0 (rf_S 400) = true := by
  have h1 := Cond.onTables_vm (A := start1.args0) (A' := start1.args0) (U := rf_S 400) (U' := start1.about) start1.about.vm c hc
  have e1 : (rf_S 400).setVm start1.about.vm = rf_S 400 := rfl
  have e2 : start1.about.setVm start1.about.vm = start1.about := rfl
  rw [e1, e2] at h1
  rw [h1]; exact h
theorem rf_words : ∀ c ∈ (Cond.code x code maxLocals ret :: tables_1), c.before start1.args0 (rf_S 400) = true := by
  have h : (Cond.code x code maxLocals ret :: tables_1).all (fun c => c.onTables || c.before start1.args0 (rf_S 400)) = true := by decide +kernel
  intro c hc
  have h1 := List.all_eq_true.mp h c hc
  rw [Bool.or_eq_true] at h1
  rcases h1 with h1 | h1
  · exact rf_word h1 (start1.words c hc)
  · exact h1
def rf_c0 (k : Nat) : Cell := { cls := 49, slots := rf_scr k, vm := .none }
theorem rf_S_heap : (rf_S 400).heap.toList = rf_c0 400 :: start1.about.heap.toList.tail := rfl
theorem rf_scr_int (i : Nat) (v : Value) (h : (rf_scr 400)[i]? = some v) : ∃ z : Int32, v = .int z := by
  have h1 : (rf_scr 400)[i]? = ((rf_ints 400).map Value.int)[i]? := by simp only [rf_scr, List.getElem?_toArray]
  rw [h1, List.getElem?_map] at h
  cases h2 : (rf_ints 400)[i]? with
  | none => rw [h2] at h; cases h
  | some z => rw [h2] at h; exact ⟨z, (Option.some.inj h).symm⟩
theorem rf_fits : heapFits (rf_S 400) = true := by
  have h0 : heapFits start1.about = true := start1.atStart.2.2.2.2.2.2.2.2.1
  unfold heapFits at h0 ⊢
  rw [← Array.all_toList] at h0 ⊢
  rw [rf_S_heap, List.all_cons, Bool.and_eq_true]
  constructor
  · unfold cellFits
    refine List.all_eq_true.mpr (fun i _ => ?_)
    split
    · rename_i v hv
      obtain ⟨z, rfl⟩ := rf_scr_int i v hv
      rfl
    · rfl
  · refine List.all_eq_true.mpr (fun c hc => ?_)
    exact List.all_eq_true.mp h0 c (List.mem_of_mem_tail hc)
theorem rf_all {args : Array Value} {first s : State} {o : Option Outcome} {idx : List Nat} {t : Term} {c : Cond} {a : Nat} {cell : Cell} (h1 : t.eval args first o idx s = some (.ref a)) (h2 : s.arrayAt? a = some cell) (h3 : ∀ i, i < cell.slots.size → c.value args first o s (i :: idx) = some true) : (Cond.all t c).value args first o s idx = some true := by
  rw [Cond.value]
  simp only [h1, h2]
  generalize cell.slots.size = n at h3 ⊢
  induction n with
  | zero => rfl
  | succ n ih =>
    rw [List.range_succ, List.foldl_append, ih (fun i hi => h3 i (by omega))]
    exact h3 n (by omega)
theorem rf_isInt {args : Array Value} {first s : State} {o : Option Outcome} {idx : List Nat} {t : Term} {z : Int32} (h1 : t.eval args first o idx s = some (.int z)) : (Cond.isInt t).value args first o s idx = some true := by
  rw [Cond.value, h1]
  rfl
theorem rf_elem {args : Array Value} {first s : State} {o : Option Outcome} {idx : List Nat} {t i : Term} {a : Nat} {j : Int32} {cell : Cell} (h1 : t.eval args first o idx s = some (.ref a)) (h2 : i.eval args first o idx s = some (.int j)) (h3 : s.arrayAt? a = some cell) : (Term.elem t i).eval args first o idx s = if j < 0 then none else cell.slots[j.toNatClampNeg]? := by
  rw [Term.eval, h1, h2]
  simp only [h3, Option.bind_eq_bind, Option.bind_some]
theorem rf_rest : rest_1_c.before start1.args0 (rf_S 400) = true := by
  unfold rest_1_c
  rw [Cond.before_and, Bool.and_eq_true]
  refine ⟨by decide +kernel, ?_⟩
  have hA : (rf_S 400).arrayAt? 0 = some (rf_c0 400) := rfl
  have h2 : (Cond.all (.arg 0) (.isInt (.elem (.arg 0) (.index 0)))).value start1.args0 (rf_S 400) none (rf_S 400) [] = some true := by
    refine rf_all (a := 0) rfl hA (fun i hi => ?_)
    have hi2 : i < (rf_scr 400).size := hi
    have hi3 : i < 2412 := by rw [rf_scr_size] at hi2; exact hi2
    obtain ⟨z, hz⟩ := rf_scr_int i _ (Array.getElem?_eq_getElem hi2)
    refine rf_isInt (z := z) ?_
    rw [rf_elem (a := 0) (j := nI i) rfl rfl hA, if_neg (nI_pos (by omega)), nI_clamp (by omega)]
    show (rf_scr 400)[i]? = _
    rw [Array.getElem?_eq_getElem hi2, hz]
  show (_ == some true) = true
  rw [h2]
  rfl
set_option maxRecDepth 16384 in
theorem rf_start : AtStart classFile x code maxLocals ret World_1 tables_1 room_1 Calls_1 rest_1 Pre_1 launch0 start1.p0 start1.e0 (rf_S 400) ⟨0, 0⟩ start1.args0 Lib.HandBits.below0 := by
  have hn : ∀ {a b : Cond}, a.before start1.args0 (rf_S 400) = true → b.before start1.args0 (rf_S 400) = true → (Cond.and a b).before start1.args0 (rf_S 400) = true := fun h1 h2 => by rw [Cond.before_and, Bool.and_eq_true]; exact ⟨h1, h2⟩
  have n1 : narrow_1_1.before start1.args0 (rf_S 400) = true := by decide +kernel
  have n2 : narrow_1_2.before start1.args0 (rf_S 400) = true := by decide +kernel
  have n3 : narrow_1_3.before start1.args0 (rf_S 400) = true := by decide +kernel
  have n4 : narrow_1_4.before start1.args0 (rf_S 400) = true := by decide +kernel
  refine ⟨lists_1, trivial, launch0.admits_env _ _ _, launch0.least_env, fairChoices_fair.cas, fairChoices_fair.clock, rfl, by decide +kernel, rf_fits,
    (Spec.applies_iff rfl).mpr ⟨rfl, rfl, rfl, by decide +kernel, by decide +kernel, by decide +kernel, launch0.hasRoom_least _ room_1 (by decide +kernel) (by decide +kernel) (by decide +kernel) (by decide +kernel) (by decide +kernel) (by decide +kernel), atoms_intro rf_words⟩,
    trivial, rf_rest, hn (show given_1.before start1.args0 (rf_S 400) = true by decide +kernel) ?_⟩
  unfold narrow_1
  exact hn (hn n1 n2) (hn n3 n4)
