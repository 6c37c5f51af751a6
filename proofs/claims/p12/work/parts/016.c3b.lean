def jlen : List Nat := [135, 3, 2, 112]
def jbyt : List (List Int32) := [[98, 111, 111, 108, 101, 97, 110, 32, 98, 121, 116, 101, 32, 99, 104, 97, 114, 32, 105, 110, 116, 32, 108, 111, 110, 103, 32, 118, 111, 105, 100, 32, 105, 102, 32, 101, 108, 115, 101, 32, 119, 104, 105, 108, 101, 32, 100, 111, 32, 102, 111, 114, 32, 115, 119, 105, 116, 99, 104, 32, 99, 97, 115, 101, 32, 100, 101, 102, 97, 117, 108, 116, 32, 98, 114, 101, 97, 107, 32, 99, 111, 110, 116, 105, 110, 117, 101, 32, 114, 101, 116, 117, 114, 110, 32, 116, 104, 114, 111, 119, 32, 116, 114, 121, 32, 99, 97, 116, 99, 104, 32, 102, 105, 110, 97, 108, 108, 121, 32, 102, 105, 110, 97, 108, 32, 116, 114, 117, 101, 32, 102, 97, 108, 115, 101], [111, 117, 116], [105, 110], [40, 32, 41, 32, 123, 32, 125, 32, 59, 32, 44, 32, 58, 32, 63, 32, 61, 32, 43, 61, 32, 45, 61, 32, 42, 61, 32, 47, 61, 32, 37, 61, 32, 38, 61, 32, 124, 61, 32, 94, 61, 32, 60, 60, 61, 32, 62, 62, 61, 32, 62, 62, 62, 61, 32, 124, 124, 32, 38, 38, 32, 124, 32, 94, 32, 38, 32, 61, 61, 32, 33, 61, 32, 60, 32, 60, 61, 32, 62, 32, 62, 61, 32, 60, 60, 32, 62, 62, 32, 62, 62, 62, 32, 43, 32, 45, 32, 42, 32, 47, 32, 37, 32, 33, 32, 126, 32, 43, 43, 32, 45, 45]]
/-- what is given beside the cells: texts, statics, links within the nest, classes of rows of references; ad has the constants from 1000000 on -/
def evC (ad : Nat → Nat) (A : Nat → Prop) (U : State) (H : Heap) : Prop :=
  (vk_S 4 jlen jbyt (fun i => ad (1000003 + i)) (fun i => ad (1000007 + i)) A U H ∧ va_Z "java/lang/String" "COMPACT_STRINGS" "Z" (.int 1) A U H ∧ va_Zq "jdk/internal/util/Preconditions" "SIOOBE_FORMATTER" "Ljava/util/function/BiFunction;" A U H) ∧
  (va_Z "java/util/ArrayList" "DEFAULTCAPACITY_EMPTY_ELEMENTDATA" "[Ljava/lang/Object;" (.ref (ad 1000000)) A U H ∧ va_T (.object "java/lang/Object") (ad 1000000) 0 (fun _ => .null) A U H) ∧
  (va_Z "PlainJava" "STRENGTHS" "[I" (.ref (ad 1000001)) A U H ∧ va_T .int (ad 1000001) 43 (fun j => .int (stvC.getD j 0)) A U H) ∧
  (va_Z "PlainJava" "OPERATORS" "[I" (.ref (ad 1000002)) A U H ∧ va_T .int (ad 1000002) 11 (fun j => .int (opvC.getD j 0)) A U H) ∧
  (va_AO "PlainJava$Exp" U ∧ va_AO "PlainJava$Statement" U ∧ va_AO "java/lang/Object" U ∧ ∀ c, (c = 2 ∨ c = 6 ∨ c = 9 ∨ c = 11) → va_Nw (.castable (owC c) "java/lang/Object") U) ∧
  (∀ q ∈ rlC, vk_R (owC q.1) q.2.1 (txC.getD q.2.2 "") (ad (1000003 + q.2.2)) U) ∧ (∀ q ∈ nlC, va_Nw (.methodLinkNest (owC q.1) q.2.1 (ynC q.2.2) "PlainJava") U) ∧ va_Mi "[Ljava/lang/Object;" (ad 1000011) U ∧ va_Dc U
theorem evC.call {ad : Nat → Nat} {A : Nat → Prop} {u U : State} {H : Heap} (hv : U.vm = u.vm) (h : evC ad A u H) : evC ad A U H := by
  have hk : u.vm.Alike U.vm := by rw [hv]; exact Vm.Alike.refl _
  obtain ⟨⟨a1, a2, a3⟩, ⟨b1, b2⟩, ⟨c1, c2⟩, ⟨d1, d2⟩, ⟨e1, e2, e3, e4⟩, f, g, m1, m2⟩ := h
  exact ⟨⟨a1.moved hk, a2.moved hk, a3.moved hk⟩, ⟨b1.moved hk, b2.moved hk⟩, ⟨c1.moved hk, c2.moved hk⟩, ⟨d1.moved hk, d2.moved hk⟩, ⟨e1.moved hk, e2.moved hk, e3.moved hk, fun c hc => va_Nw.same rfl hv.symm (e4 c hc)⟩, fun q hq => vk_R.same hv (f q hq), fun q hq => va_Nw.same rfl hv.symm (g q hq), m1.moved hk, m2.moved hk⟩
theorem evC.pass {ad : Nat → Nat} {A B : Nat → Prop} {s U : State} {H : Heap} {locs : List Loc} (hW : s.WarmedH U.vm) (h : evC ad A s s.heap) (hS : va_S A s.heap H locs) (hF : ∀ q, B q → A q) : evC ad B U H := by
  have hk := hW.alike
  obtain ⟨⟨a1, a2, a3⟩, ⟨b1, b2⟩, ⟨c1, c2⟩, ⟨d1, d2⟩, ⟨e1, e2, e3, e4⟩, f, g, m1, m2⟩ := h
  exact ⟨⟨((a1.kept hS.2.1).narrow hF).moved hk, ((a2.kept hS.2.1).narrow hF).moved hk, ((a3.kept hS.2.1).narrow hF).moved hk⟩, ⟨((b1.kept hS.2.1).narrow hF).moved hk, ((b2.kept hS.2.1).narrow hF).moved hk⟩, ⟨((c1.kept hS.2.1).narrow hF).moved hk, ((c2.kept hS.2.1).narrow hF).moved hk⟩, ⟨((d1.kept hS.2.1).narrow hF).moved hk, ((d2.kept hS.2.1).narrow hF).moved hk⟩, ⟨e1.moved hk, e2.moved hk, e3.moved hk, fun c hc => va_Nw.warmC hW (e4 c hc)⟩, fun q hq => vk_R.warm hW (f q hq), fun q hq => va_Nw.warmM hW (g q hq), m1.moved hk, m2.moved hk⟩
theorem cG_c {μ : Nat} {r : CmC} (h : mtC[μ]? = some r) : wcC r ∈ cGC := List.mem_append_left _ (List.mem_map_of_mem (List.mem_of_getElem? h))
theorem cG_i {μ : Nat} {r : CmC} (h : mtC[μ]? = some r) (hs : r.2.2.2.2.2.2 = false) : wiC r ∈ cGC := List.mem_append_right _ (List.mem_append_left _ (List.mem_map_of_mem (List.mem_filter.mpr ⟨List.mem_of_getElem? h, by rw [hs]; rfl⟩)))
theorem cG_l {μ : Nat} {r : CmC} (h : mtC[μ]? = some r) (hs : r.2.2.2.2.2.2 = false) (hn : r.1.name ≠ "<init>") : wlC r ∈ cGC := List.mem_append_right _ (List.mem_append_right _ (List.mem_append_left _ (List.mem_map_of_mem (List.mem_filter.mpr ⟨List.mem_filter.mpr ⟨List.mem_of_getElem? h, by rw [hs]; rfl⟩, decide_eq_true hn⟩))))
theorem cG_t {μ : Nat} {r : CmC} (h : mtC[μ]? = some r) (hs : r.2.2.2.2.2.2 = true) : wtC r ∈ cGC := List.mem_append_right _ (List.mem_append_right _ (List.mem_append_right _ (List.mem_append_left _ (List.mem_map_of_mem (List.mem_filter.mpr ⟨List.mem_of_getElem? h, hs⟩)))))
theorem cG_m {q : Nat × Nat × Nat} (h : q ∈ mlC) : wmC q ∈ cGC := List.mem_append_right _ (List.mem_append_right _ (List.mem_append_right _ (List.mem_append_right _ (List.mem_append_left _ (List.mem_map_of_mem h)))))
theorem cG_f {q : Nat × Nat × Nat} (h : q ∈ flC) : wfC q ∈ cGC := List.mem_append_right _ (List.mem_append_right _ (List.mem_append_right _ (List.mem_append_right _ (List.mem_append_right _ (List.mem_append_left _ (List.mem_map_of_mem h))))))
theorem cG_k {q : Nat × Nat × Nat} (h : q ∈ clC) : wkC q ∈ cGC := List.mem_append_right _ (List.mem_append_right _ (List.mem_append_right _ (List.mem_append_right _ (List.mem_append_right _ (List.mem_append_right _ (List.mem_append_left _ (List.mem_map_of_mem h)))))))
theorem cG_j {q : Nat × Nat × Int} (h : q ∈ llC) : wjC q ∈ cGC := List.mem_append_right _ (List.mem_append_right _ (List.mem_append_right _ (List.mem_append_right _ (List.mem_append_right _ (List.mem_append_right _ (List.mem_append_right _ (List.mem_append_left _ (List.mem_map_of_mem h))))))))
theorem cG_n {q : Nat × Nat × Int} (h : q ∈ ilC) : wnC q ∈ cGC := List.mem_append_right _ (List.mem_append_right _ (List.mem_append_right _ (List.mem_append_right _ (List.mem_append_right _ (List.mem_append_right _ (List.mem_append_right _ (List.mem_append_right _ (List.mem_append_left _ (List.mem_map_of_mem h)))))))))
theorem cG_o {q : Nat × Nat} (h : q ∈ oiC) : woC q ∈ cGC := List.mem_append_right _ (List.mem_append_right _ (List.mem_append_right _ (List.mem_append_right _ (List.mem_append_right _ (List.mem_append_right _ (List.mem_append_right _ (List.mem_append_right _ (List.mem_append_right _ (List.mem_append_left _ (List.mem_map_of_mem h))))))))))
theorem cG_z {i : Nat} {C : String} {T : u_T} {n : Nat} (hi : i < 13) (h : vwCl[i]? = some (C, T, n)) {w : Cond} (hw : w ∈ u_ws C T n) : w ∈ cGC := List.mem_append_right _ (List.mem_append_right _ (List.mem_append_right _ (List.mem_append_right _ (List.mem_append_right _ (List.mem_append_right _ (List.mem_append_right _ (List.mem_append_right _ (List.mem_append_right _ (List.mem_append_right _ (List.mem_append_left _ (List.mem_flatMap.mpr ⟨i, List.mem_range.mpr hi, by unfold wzC; rw [h]; exact hw⟩)))))))))))
theorem cG_p {i : Nat} (hi : i < 13) {w : Cond} (hw : w ∈ wpC i) : w ∈ cGC := List.mem_append_right _ (List.mem_append_right _ (List.mem_append_right _ (List.mem_append_right _ (List.mem_append_right _ (List.mem_append_right _ (List.mem_append_right _ (List.mem_append_right _ (List.mem_append_right _ (List.mem_append_right _ (List.mem_append_right _ (List.mem_append_left _ (List.mem_flatMap.mpr ⟨i, List.mem_range.mpr hi, hw⟩))))))))))))
theorem cG_e {w : Cond} (hw : w ∈ ([.initialized "java/lang/String", .initialized "java/lang/Math", .instanceMethod objectInit, .code objectInit ⟨#[0xb1]⟩ 1 none, .arrayClass .int, .arrayClass .byte, .arrayClass .long] : List Cond)) : w ∈ cGC := List.mem_append_right _ (List.mem_append_right _ (List.mem_append_right _ (List.mem_append_right _ (List.mem_append_right _ (List.mem_append_right _ (List.mem_append_right _ (List.mem_append_right _ (List.mem_append_right _ (List.mem_append_right _ (List.mem_append_right _ (List.mem_append_right _ (List.mem_append_left _ hw))))))))))))
theorem cG_y {q : Nat × Nat × Nat} (h : q ∈ zlC) : wyC q ∈ cGC := List.mem_append_right _ (List.mem_append_right _ (List.mem_append_right _ (List.mem_append_right _ (List.mem_append_right _ (List.mem_append_right _ (List.mem_append_right _ (List.mem_append_right _ (List.mem_append_right _ (List.mem_append_right _ (List.mem_append_right _ (List.mem_append_right _ (List.mem_append_right _ (List.mem_append_left _ (List.mem_map_of_mem h))))))))))))))
theorem cG_w {w : Cond} (hw : w ∈ weC) : w ∈ cGC := List.mem_append_right _ (List.mem_append_right _ (List.mem_append_right _ (List.mem_append_right _ (List.mem_append_right _ (List.mem_append_right _ (List.mem_append_right _ (List.mem_append_right _ (List.mem_append_right _ (List.mem_append_right _ (List.mem_append_right _ (List.mem_append_right _ (List.mem_append_right _ (List.mem_append_right _ (List.mem_append_left _ hw))))))))))))))
theorem cG_s {w : Cond} (hw : w ∈ wsC) : w ∈ cGC := List.mem_append_right _ (List.mem_append_right _ (List.mem_append_right _ (List.mem_append_right _ (List.mem_append_right _ (List.mem_append_right _ (List.mem_append_right _ (List.mem_append_right _ (List.mem_append_right _ (List.mem_append_right _ (List.mem_append_right _ (List.mem_append_right _ (List.mem_append_right _ (List.mem_append_right _ (List.mem_append_right _ (hw)))))))))))))))
set_option maxRecDepth 100000 in
theorem cG_good : cGC.all goodWord = true := by decide +kernel
set_option maxRecDepth 100000 in
theorem mtC_len : mtC.length = 253 := by decide +kernel
theorem mtC_lt {μ : Nat} {r : CmC} (h : mtC[μ]? = some r) : μ < 253 := by
  rw [← mtC_len]
  exact (List.getElem?_eq_some_iff.mp h).1
set_option maxRecDepth 100000 in
theorem stC14 : ∀ μ, μ < 253 → ∀ r, mtC[μ]? = some r → r.2.2.2.2.2.2 = true → ¬ r.2.2.2.2.2.1 < 13 → r.2.2.2.2.2.1 = 14 ∨ (16 ≤ r.2.2.2.2.2.1 ∧ r.2.2.2.2.2.1 ≤ 19) := by
  intro μ hμ r hr h1 h2
  have h : (List.range 253).all (fun μ => match mtC[μ]? with
    | some r => !r.2.2.2.2.2.2 || decide (r.2.2.2.2.2.1 < 13) || (decide (r.2.2.2.2.2.1 = 14) || (decide (16 ≤ r.2.2.2.2.2.1) && decide (r.2.2.2.2.2.1 ≤ 19)))
    | none => true) = true := by decide +kernel
  have h3 := List.all_eq_true.mp h μ (List.mem_range.mpr hμ)
  rw [hr] at h3
  simp only [Bool.or_eq_true, Bool.and_eq_true, decide_eq_true_eq, Bool.not_eq_true'] at h3
  rcases h3 with (h3 | h3) | h3
  · rw [h1] at h3; cases h3
  · exact absurd h3 h2
  · exact h3
set_option maxRecDepth 100000 in
theorem mtC_ok : ∀ μ, μ < 253 → ∀ r, mtC[μ]? = some r → r.1.cls = owC r.2.2.2.2.2.1 ∧ r.1.cls ≠ "java/lang/invoke/MethodHandle" ∧ r.1.cls ≠ "java/lang/invoke/VarHandle" ∧ (parseMethodDescriptor r.1.desc).map (fun d => d.parameters.length) = some r.2.2.2.2.1 ∧ r.2.2.1 ≤ 80 := by
  intro μ hμ r hr
  have h : (List.range 253).all (fun μ => match mtC[μ]? with
    | some r => decide (r.1.cls = owC r.2.2.2.2.2.1) && decide (r.1.cls ≠ "java/lang/invoke/MethodHandle") && decide (r.1.cls ≠ "java/lang/invoke/VarHandle") && decide ((parseMethodDescriptor r.1.desc).map (fun d => d.parameters.length) = some r.2.2.2.2.1) && decide (r.2.2.1 ≤ 80)
    | none => true) = true := by decide +kernel
  have h1 := List.all_eq_true.mp h μ (List.mem_range.mpr hμ)
  rw [hr] at h1
  simp only [Bool.and_eq_true, decide_eq_true_eq] at h1
  exact ⟨h1.1.1.1.1, h1.1.1.1.2, h1.1.1.2, h1.1.2, h1.2⟩
