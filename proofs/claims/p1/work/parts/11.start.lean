def jtm : Nat → Term := fun i => match i with
  | 0 => .string "PlainJava$Tokens" 35
  | 1 => .string "PlainJava$Program" 36
  | 2 => .string "PlainJava$Program" 48
  | _ => .string "PlainJava$Tokens" 94
def gvn : List Cond := flatC (Jvm.Cond.and given_1 narrow_1)
def jex : List Nat := [74, 213, 221, 229]
theorem gx_0 : ∀ i, i < 4 → gvn[jex.getD i 0]? = some (Cond.exactly (jtm i) "java/lang/String") := by decide +kernel
theorem gx_1 : ∀ i, i < 4 → gvn[jex.getD i 0 + 1]? = some (Cond.eq (.field (jtm i) "java/lang/String" "coder" "B") (.int 0)) := by decide +kernel
theorem gx_2 : ∀ i, i < 4 → gvn[jex.getD i 0 + 2]? = some (Cond.arrayOf (.field (jtm i) "java/lang/String" "value" "[B") .byte) := by decide +kernel
theorem gx_3 : ∀ i, i < 4 → gvn[jex.getD i 0 + 3]? = some (Cond.eq (.length (.field (jtm i) "java/lang/String" "value" "[B")) (.int (Int32.ofNat (jlen.getD i 0)))) := by decide +kernel
theorem gx_4 : ∀ i, i < 4 → ∀ j, j < jlen.getD i 0 → gvn[jex.getD i 0 + 4 + j]? = some (Cond.eq (.elem (.field (jtm i) "java/lang/String" "value" "[B") (.int (Int32.ofNat j))) (.int ((jbyt.getD i []).getD j 0))) := by decide +kernel
theorem gx_5 : ∀ i, i < 4 → ∀ j, j < 4 → i ≠ j → (Cond.not (Cond.eq (jtm i) (jtm j))) ∈ gvn ∨ (Cond.not (Cond.eq (jtm j) (jtm i))) ∈ gvn := by decide +kernel
/-- what the Statement gives of the start -/
theorem ev0 {s : State} {b : Nat} (hts : ∀ w ∈ lw_tbl, w.before #[Value.ref b] s = true) (hgv : (Jvm.Cond.and given_1 narrow_1).before #[Value.ref b] s = true) : ∃ (z0 : Nat) (adK adV : Nat → Nat), ev z0 adK adV (fun q : Nat => s.heap.size ≤ q) s s.heap := by
  have hf : ∀ c ∈ gvn, c.before #[Value.ref b] s = true := flat_of_before _ hgv
  have hA : ∀ a : Nat, a < s.heap.size → ¬ (fun q : Nat => s.heap.size ≤ q) a := fun a h => Nat.not_le.mpr h
  obtain ⟨z0, c0, cA, kA, q1, -⟩ := Cond.exactly_spec (args := #[Value.ref b]) (first := s) (o := none) (s := s) (idx := []) (t := .static "java/util/ArrayList" "DEFAULTCAPACITY_EMPTY_ELEMENTDATA" "[Ljava/lang/Object;") (cls := "[Ljava/lang/Object;") (hf _ (List.mem_of_getElem? (i := 11) (by decide +kernel)))
  obtain ⟨adK, adV, hS, hev⟩ := vk_Sof (args := #[Value.ref b]) (N := 4) (tm := jtm) (len := jlen) (byt := jbyt) (A := fun q : Nat => s.heap.size ≤ q) jl_lt (fun i hi => hf _ (List.mem_of_getElem? (gx_0 i hi))) (fun i hi => hf _ (List.mem_of_getElem? (gx_1 i hi))) (fun i hi => hf _ (List.mem_of_getElem? (gx_2 i hi))) (fun i hi => hf _ (List.mem_of_getElem? (gx_3 i hi))) (fun i hi j hj => hf _ (List.mem_of_getElem? (gx_4 i hi j hj))) (fun i j hi hj h => (gx_5 i hi j hj h).elim (fun m => Or.inl (hf _ m)) (fun m => Or.inr (hf _ m))) hA
  refine ⟨z0, adK, adV, va_AO.of (hts _ mw_480), va_AO.of (hts _ mw_482), va_Zref (hts _ mw_169) (hts _ mw_25) q1 hA, va_Zof (hts _ mw_71) (hts _ mw_19) (va_eqt (hf _ (List.mem_of_getElem? (i := 4) (by decide +kernel)))) hA, va_Zqof (hts _ mw_87) (hts _ mw_21) (hf _ (List.mem_of_getElem? (i := 5) (by decide +kernel))) hA, hS, vk_R.of (hts _ mw_61) (hev 0 (by decide)), vk_R.of (hts _ mw_184) (hev 1 (by decide)), vk_R.of (hts _ mw_357) (hev 2 (by decide))⟩
