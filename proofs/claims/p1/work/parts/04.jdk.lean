set_option maxRecDepth 20000 in
def ww_coder : List Cond := .code yJ0_coder_7d493 cJ0_coder_7d493 1 (some .byte) :: ([Cond.fieldLink RJ0 38 "java/lang/String" "COMPACT_STRINGS" "Z", Cond.fieldLink RJ0 15 "java/lang/String" "coder" "B"] ++ (([] : List Cond)))
set_option maxHeartbeats 40000000 in
set_option maxRecDepth 100000 in
/-- coder() of a text constant -/
theorem c_coder (l : Launch) (dC : Nat → ClassId) (dI : Nat → Nat → Nat) (z0 : Nat) (adK : Nat → Nat) (adV : Nat → Nat) (i : Nat) (hi : i < 4) (sz : Nat) : Met l yJ0_coder_7d493 ww_coder ({ frames := 1, cells := 0, slots := 0, locals := 100 }) (va_Pc [.ref (adK i)] (fun U => U.heap.size = sz ∧ va_P (dC, dI) vwCl [] U.heap ∧ va_K (dC, dI) vwCl [] U ∧ va_D (fun _ => True) [] ∧ ev z0 adK adV (va_A [] sz) U U.heap)) (va_Qi (fun (r : Int32) (_ : Unit) => r = 0) (fun (_ : Unit) (t : State) => va_P (dC, dI) vwCl [] t.heap ∧ va_K (dC, dI) vwCl [] t ∧ va_D (va_A [] sz) []) (va_A [] sz)) 0 0 (va_A [] sz) := by
  refine Met.ofW (cc := cJ0_coder_7d493) (maxL := 1) (ret := (some .byte)) (by decide) rfl ?_
  intro p e s m args below meth c s₁ B hml hv
  obtain ⟨rfl, hsz, hP, hK, hD0, hE⟩ := hv
  have hx := B.exec
  have hb := B.bytes
  have hr := B.returns
  have hts := atoms_spec (ws := ww_coder) B.pre
  have hown : s.vm.findClass RJ0 = some m.cls := findClass_of_methodNamed B.named
  have hlocks := B.notSynchronized
  subst hsz
  have hD := hD0.self (sz := s.heap.size)
  generalize hAe : va_A [] s.heap.size = A at hD hE ⊢
  have hA : ∀ q : Nat, s.heap.size ≤ q → A q := fun q h => by rw [← hAe]; exact Or.inr h
  have hS : va_S A s.heap s.heap [] := va_S.rf
  have hP : va_P (dC, dI) vwCl [] s.heap := hP
  have hl := lv_entry ([.ref (adK i)]) (n := 1) (Nat.le_of_ble_eq_true rfl)
  rw [lg_entry_eq]
  generalize (lg_sl ([.ref (adK i)]) ++ List.replicate (1 - (lg_sl ([.ref (adK i)])).length) Slot.unset).toArray = ls at hl ⊢
  have hl : lv_has ls 1 [(0, .ref (adK i))] := hl
  refine va_gets hx hb hE.2.2.2.1 hS hown (hts _ (List.mem_cons_of_mem _ (List.mem_append_left _ (List.mem_of_getElem? (i := 0) rfl)))) (fun _ h9 => h9) dJ0_coder_7d493_0 ?_
  refine lv_if_eq (tgt := 13) hx hb dJ0_coder_7d493_3 (by decide) (fun hc => absurd hc (by decide)) (fun _ => ?_)
  refine lv_aload_n hx hb dJ0_coder_7d493_6 rfl (lv_at hl 0 rfl) ?_
  refine vk_getf hx hb (hE.2.2.2.2.2.1.1 i hi).2.1 hS hown (hts _ (List.mem_cons_of_mem _ (List.mem_append_left _ (List.mem_of_getElem? (i := 1) rfl)))) (fun _ h9 => h9) dJ0_coder_7d493_7 ?_
  refine lv_goto (tgt := 14) hx hb dJ0_coder_7d493_10 (by decide) ?_
  exact W.zret (v := 0) hx hb hr rfl (fun t ht hW => ⟨⟨_, (), rfl, rfl, by rw [ht]; exact hP, va_K.moved hW.alike hK, hD⟩, hS.F ht⟩) hS.2.2 dJ0_coder_7d493_14
set_option maxRecDepth 20000 in
def ww_isLatin1 : List Cond := .code yJ0_isLatin1_aae02 cJ0_isLatin1_aae02 1 (some .boolean) :: ([Cond.fieldLink RJ0 38 "java/lang/String" "COMPACT_STRINGS" "Z", Cond.fieldLink RJ0 15 "java/lang/String" "coder" "B"] ++ (([] : List Cond)))
set_option maxHeartbeats 40000000 in
set_option maxRecDepth 100000 in
/-- isLatin1() of a text constant -/
theorem c_isLatin1 (l : Launch) (dC : Nat → ClassId) (dI : Nat → Nat → Nat) (z0 : Nat) (adK : Nat → Nat) (adV : Nat → Nat) (i : Nat) (hi : i < 4) (sz : Nat) : Met l yJ0_isLatin1_aae02 ww_isLatin1 ({ frames := 1, cells := 0, slots := 0, locals := 100 }) (va_Pc [.ref (adK i)] (fun U => U.heap.size = sz ∧ va_P (dC, dI) vwCl [] U.heap ∧ va_K (dC, dI) vwCl [] U ∧ va_D (fun _ => True) [] ∧ ev z0 adK adV (va_A [] sz) U U.heap)) (va_Qi (fun (r : Int32) (_ : Unit) => r = 1) (fun (_ : Unit) (t : State) => va_P (dC, dI) vwCl [] t.heap ∧ va_K (dC, dI) vwCl [] t ∧ va_D (va_A [] sz) []) (va_A [] sz)) 0 0 (va_A [] sz) := by
  refine Met.ofW (cc := cJ0_isLatin1_aae02) (maxL := 1) (ret := (some .boolean)) (by decide) rfl ?_
  intro p e s m args below meth c s₁ B hml hv
  obtain ⟨rfl, hsz, hP, hK, hD0, hE⟩ := hv
  have hx := B.exec
  have hb := B.bytes
  have hr := B.returns
  have hts := atoms_spec (ws := ww_isLatin1) B.pre
  have hown : s.vm.findClass RJ0 = some m.cls := findClass_of_methodNamed B.named
  have hlocks := B.notSynchronized
  subst hsz
  have hD := hD0.self (sz := s.heap.size)
  generalize hAe : va_A [] s.heap.size = A at hD hE ⊢
  have hA : ∀ q : Nat, s.heap.size ≤ q → A q := fun q h => by rw [← hAe]; exact Or.inr h
  have hS : va_S A s.heap s.heap [] := va_S.rf
  have hP : va_P (dC, dI) vwCl [] s.heap := hP
  have hl := lv_entry ([.ref (adK i)]) (n := 1) (Nat.le_of_ble_eq_true rfl)
  rw [lg_entry_eq]
  generalize (lg_sl ([.ref (adK i)]) ++ List.replicate (1 - (lg_sl ([.ref (adK i)])).length) Slot.unset).toArray = ls at hl ⊢
  have hl : lv_has ls 1 [(0, .ref (adK i))] := hl
  refine va_gets hx hb hE.2.2.2.1 hS hown (hts _ (List.mem_cons_of_mem _ (List.mem_append_left _ (List.mem_of_getElem? (i := 0) rfl)))) (fun _ h9 => h9) dJ0_isLatin1_aae02_0 ?_
  refine lv_if_eq (tgt := 17) hx hb dJ0_isLatin1_aae02_3 (by decide) (fun hc => absurd hc (by decide)) (fun _ => ?_)
  refine lv_aload_n hx hb dJ0_isLatin1_aae02_6 rfl (lv_at hl 0 rfl) ?_
  refine vk_getf hx hb (hE.2.2.2.2.2.1.1 i hi).2.1 hS hown (hts _ (List.mem_cons_of_mem _ (List.mem_append_left _ (List.mem_of_getElem? (i := 1) rfl)))) (fun _ h9 => h9) dJ0_isLatin1_aae02_7 ?_
  refine lv_if_ne (tgt := 17) hx hb dJ0_isLatin1_aae02_10 (by decide) (fun hc => absurd (by decide) hc) (fun _ => ?_)
  refine lv_iconst (v := 1) hx hb dJ0_isLatin1_aae02_13 (by decide) ?_
  refine lv_goto (tgt := 18) hx hb dJ0_isLatin1_aae02_14 (by decide) ?_
  exact W.zret (v := 1) hx hb hr rfl (fun t ht hW => ⟨⟨_, (), rfl, rfl, by rw [ht]; exact hP, va_K.moved hW.alike hK, hD⟩, hS.F ht⟩) hS.2.2 dJ0_isLatin1_aae02_18
set_option maxRecDepth 20000 in
def ww_length : List Cond := .code yJ0_length_8abf5 cJ0_length_8abf5 1 (some .int) :: ([Cond.fieldLink RJ0 9 "java/lang/String" "value" "[B"] ++ (ww_coder ++ ((wsV RJ0 335 RJ0 yJ0_coder_7d493 ww_coder))))
set_option maxHeartbeats 40000000 in
set_option maxRecDepth 100000 in
/-- length() of a text constant -/
theorem c_length (l : Launch) (dC : Nat → ClassId) (dI : Nat → Nat → Nat) (z0 : Nat) (adK : Nat → Nat) (adV : Nat → Nat) (i : Nat) (hi : i < 4) (sz : Nat) : Met l yJ0_length_8abf5 ww_length ({ frames := 2, cells := 0, slots := 0, locals := 200 }) (va_Pc [.ref (adK i)] (fun U => U.heap.size = sz ∧ va_P (dC, dI) vwCl [] U.heap ∧ va_K (dC, dI) vwCl [] U ∧ va_D (fun _ => True) [] ∧ ev z0 adK adV (va_A [] sz) U U.heap)) (va_Qi (fun (r : Int32) (_ : Unit) => r = nI (jlen.getD i 0)) (fun (_ : Unit) (t : State) => va_P (dC, dI) vwCl [] t.heap ∧ va_K (dC, dI) vwCl [] t ∧ va_D (va_A [] sz) []) (va_A [] sz)) 0 0 (va_A [] sz) := by
  refine Met.ofW (cc := cJ0_length_8abf5) (maxL := 1) (ret := (some .int)) (by decide) rfl ?_
  intro p e s m args below meth c s₁ B hml hv
  obtain ⟨rfl, hsz, hP, hK, hD0, hE⟩ := hv
  have hx := B.exec
  have hb := B.bytes
  have hr := B.returns
  have hts := atoms_spec (ws := ww_length) B.pre
  have hown : s.vm.findClass RJ0 = some m.cls := findClass_of_methodNamed B.named
  have hlocks := B.notSynchronized
  subst hsz
  have hD := hD0.self (sz := s.heap.size)
  generalize hAe : va_A [] s.heap.size = A at hD hE ⊢
  have hA : ∀ q : Nat, s.heap.size ≤ q → A q := fun q h => by rw [← hAe]; exact Or.inr h
  have hS : va_S A s.heap s.heap [] := va_S.rf
  have hP : va_P (dC, dI) vwCl [] s.heap := hP
  have hl := lv_entry ([.ref (adK i)]) (n := 1) (Nat.le_of_ble_eq_true rfl)
  rw [lg_entry_eq]
  generalize (lg_sl ([.ref (adK i)]) ++ List.replicate (1 - (lg_sl ([.ref (adK i)])).length) Slot.unset).toArray = ls at hl ⊢
  have hl : lv_has ls 1 [(0, .ref (adK i))] := hl
  refine lv_aload_n hx hb dJ0_length_8abf5_0 rfl (lv_at hl 0 rfl) ?_
  refine vk_getf hx hb (hE.2.2.2.2.2.1.1 i hi).2.2.1 hS hown (hts _ (List.mem_cons_of_mem _ (List.mem_append_left _ (List.mem_of_getElem? (i := 0) rfl)))) (fun _ h9 => h9) dJ0_length_8abf5_1 ?_
  refine va_tlen (v := nI (jlen.getD i 0)) hx hb (hE.2.2.2.2.2.1.1 i hi).2.2.2 hS rfl dJ0_length_8abf5_4 ?_
  refine lv_aload_n hx hb dJ0_length_8abf5_5 rfl (lv_at hl 0 rfl) ?_
  have hPc1 := hP.sub (ws' := []) [] rfl
  have hDc1 := hD.sub (ws' := []) [] (by decide) rfl
  have hKc1 := hK.sub (tys' := []) [] rfl
  have hFc1 := va_free (wc := []) hD hS hA [] rfl
  refine va_calli (va_runV (As := []) (rest := [.int (nI (jlen.getD i 0))]) ⟨hx, hb, hml, hown, hts⟩ (c_coder l dC dI (z0) (adK) (adV) (i) hi s.heap.size) (cwV 0 hts (goodIn_sub (fun w h => List.mem_cons_of_mem _ (List.mem_append_right _ (List.mem_append_right _ h))) (by decide +kernel)) rfl rfl rfl (by decide +kernel) ⟨Nat.le_of_ble_eq_true rfl, Nat.le_of_ble_eq_true rfl⟩) ⟨fun a U g mk q => by obtain ⟨q0, q1, qP, qK, qD, qE0⟩ := q; exact ⟨q0, q1, qP, va_K.moved (u := U) (U := U.calling g mk a) (Vm.Alike.refl U.vm) qK, qD, ev_call rfl qE0⟩, vk_recv hE.2.2.2.2.2.1 (i := i) hi hS, fun U hU hW => ⟨rfl, by rw [hU], by rw [hU]; exact hPc1, va_K.moved hW.alike hKc1, hDc1.weaken (fun _ _ _ _ => trivial), by rw [hU]; exact ev_pass hW hE hS hFc1⟩⟩ rfl rfl hl.1 rfl (lv_room (Nat.le_of_ble_eq_true rfl)) dJ0_length_8abf5_6 ⟨Nat.le_of_ble_eq_true rfl, Nat.le_of_ble_eq_true rfl⟩) hS (fun q _ h => hFc1 q h) hFc1 (fun r2 u2 t2 H2 lo2 ht2 hvm2 hw2 hB2 hz2 hk2 hS2 => ?_)
  obtain ⟨hP1_2, hK1_2, hD1_2⟩ := hB2
  rw [ht2] at hP1_2
  replace hK1_2 := va_K.moved hvm2.symm hK1_2
  obtain ⟨hP2, hD2⟩ := va_join (wr := []) (w1 := []) hP hD [] [] rfl rfl (by decide) (by decide) hk2 hFc1 hP1_2 hD1_2
  have hK2 := (hK.sub (tys' := []) [] rfl).app hK1_2
  replace hK2 : va_K (dC, dI) vwCl [] s := hK2
  replace hP2 : va_P (dC, dI) vwCl [] H2 := hP2
  replace hD2 : va_D A [] := hD2
  clear hP1_2 hD1_2 hK1_2 hk2 hFc1 hPc1 hDc1 hKc1 hz2 ht2 hvm2 hP hD hS hK
  refine W.widen (k := 0) (n := 0) (Nat.le_of_ble_eq_true rfl) (Nat.le_of_ble_eq_true rfl) ?_
  obtain rfl : r2 = 0 := hw2
  refine lv_ishr hx hb dJ0_length_8abf5_9 ?_
  refine lv_topi (fun x3 ex3 => ?_)
  exact W.iret (v := x3) hx hb hr (fun t ht hW => ⟨⟨_, (), rfl, (ex3.trans (sc_shr0 (jl_lt i hi))), by rw [ht]; exact hP2, va_K.moved hW.alike hK2, hD2⟩, hS2.F ht⟩) hS2.2.2 dJ0_length_8abf5_10
set_option maxRecDepth 20000 in
def ww_pcheckN : List Cond := .code yJ3_checkIndex_8e157 cJ3_checkIndex_8e157 3 (some .int) :: ([] ++ (([] : List Cond)))
set_option maxHeartbeats 40000000 in
set_option maxRecDepth 100000 in
/-- Preconditions.checkIndex -/
theorem c_pcheckN (l : Launch) (dC : Nat → ClassId) (dI : Nat → Nat → Nat) (a : Int32) (b : Int32) (ha : ¬ a < 0) (hb2 : a < b) (sz : Nat) : Met l yJ3_checkIndex_8e157 ww_pcheckN ({ frames := 1, cells := 0, slots := 0, locals := 100 }) (va_Pc [.int a, .int b, .null] (fun U => U.heap.size = sz ∧ va_P (dC, dI) vwCl [] U.heap ∧ va_K (dC, dI) vwCl [] U ∧ va_D (fun _ => True) [])) (va_Qi (fun (r : Int32) (_ : Unit) => r = a) (fun (_ : Unit) (t : State) => va_P (dC, dI) vwCl [] t.heap ∧ va_K (dC, dI) vwCl [] t ∧ va_D (va_A [] sz) []) (va_A [] sz)) 0 0 (va_A [] sz) := by
  refine Met.ofW (cc := cJ3_checkIndex_8e157) (maxL := 3) (ret := (some .int)) (by decide) rfl ?_
  intro p e s m args below meth c s₁ B hml hv
  obtain ⟨rfl, hsz, hP, hK, hD0⟩ := hv
  have hx := B.exec
  have hb := B.bytes
  have hr := B.returns
  have hts := atoms_spec (ws := ww_pcheckN) B.pre
  have hown : s.vm.findClass RJ3 = some m.cls := findClass_of_methodNamed B.named
  have hlocks := B.notSynchronized
  subst hsz
  have hD := hD0.self (sz := s.heap.size)
  generalize hAe : va_A [] s.heap.size = A at hD ⊢
  have hA : ∀ q : Nat, s.heap.size ≤ q → A q := fun q h => by rw [← hAe]; exact Or.inr h
  have hS : va_S A s.heap s.heap [] := va_S.rf
  have hP : va_P (dC, dI) vwCl [] s.heap := hP
  have hl := lv_entry ([.int a, .int b, .null]) (n := 3) (Nat.le_of_ble_eq_true rfl)
  rw [lg_entry_eq]
  generalize (lg_sl ([.int a, .int b, .null]) ++ List.replicate (3 - (lg_sl ([.int a, .int b, .null])).length) Slot.unset).toArray = ls at hl ⊢
  have hl : lv_has ls 3 [(0, .int a), (1, .int b), (2, .null)] := hl
  refine lv_iload_n hx hb dJ3_checkIndex_8e157_0 rfl (lv_at hl 0 rfl) ?_
  refine lv_if_lt (tgt := 9) hx hb dJ3_checkIndex_8e157_1 (by decide) (fun hc => absurd hc ha) (fun _ => ?_)
  refine lv_iload_n hx hb dJ3_checkIndex_8e157_4 rfl (lv_at hl 0 rfl) ?_
  refine lv_iload_n hx hb dJ3_checkIndex_8e157_5 rfl (lv_at hl 1 rfl) ?_
  refine lv_icmp_lt (tgt := 16) hx hb dJ3_checkIndex_8e157_6 (by decide) (fun _ => ?_) (fun hc => absurd hb2 hc)
  refine lv_iload_n hx hb dJ3_checkIndex_8e157_16 rfl (lv_at hl 0 rfl) ?_
  exact W.iret (v := a) hx hb hr (fun t ht hW => ⟨⟨_, (), rfl, rfl, by rw [ht]; exact hP, va_K.moved hW.alike hK, hD⟩, hS.F ht⟩) hS.2.2 dJ3_checkIndex_8e157_17
set_option maxRecDepth 20000 in
def ww_pcheckR : List Cond := .code yJ3_checkIndex_8e157 cJ3_checkIndex_8e157 3 (some .int) :: ([] ++ (([] : List Cond)))
set_option maxHeartbeats 40000000 in
set_option maxRecDepth 100000 in
/-- Preconditions.checkIndex -/
theorem c_pcheckR (l : Launch) (dC : Nat → ClassId) (dI : Nat → Nat → Nat) (a : Int32) (b : Int32) (x2 : Nat) (ha : ¬ a < 0) (hb2 : a < b) (sz : Nat) : Met l yJ3_checkIndex_8e157 ww_pcheckR ({ frames := 1, cells := 0, slots := 0, locals := 100 }) (va_Pc [.int a, .int b, .ref x2] (fun U => U.heap.size = sz ∧ va_P (dC, dI) vwCl [] U.heap ∧ va_K (dC, dI) vwCl [] U ∧ va_D (fun _ => True) [])) (va_Qi (fun (r : Int32) (_ : Unit) => r = a) (fun (_ : Unit) (t : State) => va_P (dC, dI) vwCl [] t.heap ∧ va_K (dC, dI) vwCl [] t ∧ va_D (va_A [] sz) []) (va_A [] sz)) 0 0 (va_A [] sz) := by
  refine Met.ofW (cc := cJ3_checkIndex_8e157) (maxL := 3) (ret := (some .int)) (by decide) rfl ?_
  intro p e s m args below meth c s₁ B hml hv
  obtain ⟨rfl, hsz, hP, hK, hD0⟩ := hv
  have hx := B.exec
  have hb := B.bytes
  have hr := B.returns
  have hts := atoms_spec (ws := ww_pcheckR) B.pre
  have hown : s.vm.findClass RJ3 = some m.cls := findClass_of_methodNamed B.named
  have hlocks := B.notSynchronized
  subst hsz
  have hD := hD0.self (sz := s.heap.size)
  generalize hAe : va_A [] s.heap.size = A at hD ⊢
  have hA : ∀ q : Nat, s.heap.size ≤ q → A q := fun q h => by rw [← hAe]; exact Or.inr h
  have hS : va_S A s.heap s.heap [] := va_S.rf
  have hP : va_P (dC, dI) vwCl [] s.heap := hP
  have hl := lv_entry ([.int a, .int b, .ref x2]) (n := 3) (Nat.le_of_ble_eq_true rfl)
  rw [lg_entry_eq]
  generalize (lg_sl ([.int a, .int b, .ref x2]) ++ List.replicate (3 - (lg_sl ([.int a, .int b, .ref x2])).length) Slot.unset).toArray = ls at hl ⊢
  have hl : lv_has ls 3 [(0, .int a), (1, .int b), (2, .ref x2)] := hl
  refine lv_iload_n hx hb dJ3_checkIndex_8e157_0 rfl (lv_at hl 0 rfl) ?_
  refine lv_if_lt (tgt := 9) hx hb dJ3_checkIndex_8e157_1 (by decide) (fun hc => absurd hc ha) (fun _ => ?_)
  refine lv_iload_n hx hb dJ3_checkIndex_8e157_4 rfl (lv_at hl 0 rfl) ?_
  refine lv_iload_n hx hb dJ3_checkIndex_8e157_5 rfl (lv_at hl 1 rfl) ?_
  refine lv_icmp_lt (tgt := 16) hx hb dJ3_checkIndex_8e157_6 (by decide) (fun _ => ?_) (fun hc => absurd hb2 hc)
  refine lv_iload_n hx hb dJ3_checkIndex_8e157_16 rfl (lv_at hl 0 rfl) ?_
  exact W.iret (v := a) hx hb hr (fun t ht hW => ⟨⟨_, (), rfl, rfl, by rw [ht]; exact hP, va_K.moved hW.alike hK, hD⟩, hS.F ht⟩) hS.2.2 dJ3_checkIndex_8e157_17
set_option maxRecDepth 20000 in
def ww_scheck : List Cond := .code yJ0_checkIndex_df160 cJ0_checkIndex_df160 2 none :: ([Cond.fieldLink RJ0 1053 "jdk/internal/util/Preconditions" "SIOOBE_FORMATTER" "Ljava/util/function/BiFunction;"] ++ (ww_pcheckN ++ ((va_wsS RJ0 1059 yJ3_checkIndex_8e157 ww_pcheckN) ++ (ww_pcheckR ++ ((va_wsS RJ0 1059 yJ3_checkIndex_8e157 ww_pcheckR))))))
set_option maxHeartbeats 40000000 in
set_option maxRecDepth 100000 in
/-- String.checkIndex -/
theorem c_scheck (l : Launch) (dC : Nat → ClassId) (dI : Nat → Nat → Nat) (z0 : Nat) (adK : Nat → Nat) (adV : Nat → Nat) (a : Int32) (b : Int32) (ha : ¬ a < 0) (hb2 : a < b) (sz : Nat) : Met l yJ0_checkIndex_df160 ww_scheck ({ frames := 2, cells := 0, slots := 0, locals := 200 }) (va_Pc [.int a, .int b] (fun U => U.heap.size = sz ∧ va_P (dC, dI) vwCl [] U.heap ∧ va_K (dC, dI) vwCl [] U ∧ va_D (fun _ => True) [] ∧ ev z0 adK adV (va_A [] sz) U U.heap)) (va_Qv (fun _ : Unit => True) (fun (_ : Unit) (t : State) => va_P (dC, dI) vwCl [] t.heap ∧ va_K (dC, dI) vwCl [] t ∧ va_D (va_A [] sz) []) (va_A [] sz)) 0 0 (va_A [] sz) := by
  refine Met.ofW (cc := cJ0_checkIndex_df160) (maxL := 2) (ret := none) (by decide) rfl ?_
  intro p e s m args below meth c s₁ B hml hv
  obtain ⟨rfl, hsz, hP, hK, hD0, hE⟩ := hv
  have hx := B.exec
  have hb := B.bytes
  have hr := B.returns
  have hts := atoms_spec (ws := ww_scheck) B.pre
  have hown : s.vm.findClass RJ0 = some m.cls := findClass_of_methodNamed B.named
  have hlocks := B.notSynchronized
  subst hsz
  have hD := hD0.self (sz := s.heap.size)
  generalize hAe : va_A [] s.heap.size = A at hD hE ⊢
  have hA : ∀ q : Nat, s.heap.size ≤ q → A q := fun q h => by rw [← hAe]; exact Or.inr h
  have hS : va_S A s.heap s.heap [] := va_S.rf
  have hP : va_P (dC, dI) vwCl [] s.heap := hP
  have hl := lv_entry ([.int a, .int b]) (n := 2) (Nat.le_of_ble_eq_true rfl)
  rw [lg_entry_eq]
  generalize (lg_sl ([.int a, .int b]) ++ List.replicate (2 - (lg_sl ([.int a, .int b])).length) Slot.unset).toArray = ls at hl ⊢
  have hl : lv_has ls 2 [(0, .int a), (1, .int b)] := hl
  rcases hE.2.2.2.2.1 with hz0 | ⟨zq, hz0⟩
  · refine lv_iload_n hx hb dJ0_checkIndex_df160_0 rfl (lv_at hl 0 rfl) ?_
    refine lv_iload_n hx hb dJ0_checkIndex_df160_1 rfl (lv_at hl 1 rfl) ?_
    refine va_gets hx hb hz0 hS hown (hts _ (List.mem_cons_of_mem _ (List.mem_append_left _ (List.mem_of_getElem? (i := 0) rfl)))) (fun _ h9 => h9) dJ0_checkIndex_df160_2 ?_
    have hPc1 := hP.sub (ws' := []) [] rfl
    have hDc1 := hD.sub (ws' := []) [] (by decide) rfl
    have hKc1 := hK.sub (tys' := []) [] rfl
    have hFc1 := va_free (wc := []) hD hS hA [] rfl
    refine va_calli (va_runS (As := [.int a, .int b, .null]) (rest := []) ⟨hx, hb, hml, hown, hts⟩ (c_pcheckN l dC dI (a) (b) ha hb2 s.heap.size) (va_cwS 3 hts (goodIn_sub (fun w h => List.mem_cons_of_mem _ (List.mem_append_right _ (List.mem_append_right _ (List.mem_append_left _ h)))) (by decide +kernel)) rfl rfl rfl (by decide +kernel) ⟨Nat.le_of_ble_eq_true rfl, Nat.le_of_ble_eq_true rfl⟩) ⟨fun a U g mk q => by obtain ⟨q0, q1, qP, qK, qD⟩ := q; exact ⟨q0, q1, qP, va_K.moved (u := U) (U := U.calling g mk a) (Vm.Alike.refl U.vm) qK, qD⟩, fun U hU hW => ⟨rfl, by rw [hU], by rw [hU]; exact hPc1, va_K.moved hW.alike hKc1, hDc1.weaken (fun _ _ _ _ => trivial)⟩⟩ rfl rfl hl.1 rfl (lv_room (Nat.le_of_ble_eq_true rfl)) dJ0_checkIndex_df160_5 ⟨Nat.le_of_ble_eq_true rfl, Nat.le_of_ble_eq_true rfl⟩) hS (fun q _ h => hFc1 q h) hFc1 (fun r2 u2 t2 H2 lo2 ht2 hvm2 hw2 hB2 hz2 hk2 hS2 => ?_)
    obtain ⟨hP1_2, hK1_2, hD1_2⟩ := hB2
    rw [ht2] at hP1_2
    replace hK1_2 := va_K.moved hvm2.symm hK1_2
    obtain ⟨hP2, hD2⟩ := va_join (wr := []) (w1 := []) hP hD [] [] rfl rfl (by decide) (by decide) hk2 hFc1 hP1_2 hD1_2
    have hK2 := (hK.sub (tys' := []) [] rfl).app hK1_2
    replace hK2 : va_K (dC, dI) vwCl [] s := hK2
    replace hP2 : va_P (dC, dI) vwCl [] H2 := hP2
    replace hD2 : va_D A [] := hD2
    clear hP1_2 hD1_2 hK1_2 hk2 hFc1 hPc1 hDc1 hKc1 hz2 ht2 hvm2 hP hD hS hK
    refine W.widen (k := 0) (n := 0) (Nat.le_of_ble_eq_true rfl) (Nat.le_of_ble_eq_true rfl) ?_
    obtain rfl : r2 = a := hw2
    refine lv_pop hx hb dJ0_checkIndex_df160_8 rfl ?_
    exact W.vret hx hb hr (fun t ht hW => ⟨⟨(), rfl, trivial, by rw [ht]; exact hP2, va_K.moved hW.alike hK2, hD2⟩, hS2.F ht⟩) hS2.2.2 dJ0_checkIndex_df160_9
  · refine lv_iload_n hx hb dJ0_checkIndex_df160_0 rfl (lv_at hl 0 rfl) ?_
    refine lv_iload_n hx hb dJ0_checkIndex_df160_1 rfl (lv_at hl 1 rfl) ?_
    refine va_gets hx hb hz0 hS hown (hts _ (List.mem_cons_of_mem _ (List.mem_append_left _ (List.mem_of_getElem? (i := 0) rfl)))) (fun _ h9 => h9) dJ0_checkIndex_df160_2 ?_
    have hPc3 := hP.sub (ws' := []) [] rfl
    have hDc3 := hD.sub (ws' := []) [] (by decide) rfl
    have hKc3 := hK.sub (tys' := []) [] rfl
    have hFc3 := va_free (wc := []) hD hS hA [] rfl
    refine va_calli (va_runS (As := [.int a, .int b, .ref zq]) (rest := []) ⟨hx, hb, hml, hown, hts⟩ (c_pcheckR l dC dI (a) (b) (zq) ha hb2 s.heap.size) (va_cwS 3 hts (goodIn_sub (fun w h => List.mem_cons_of_mem _ (List.mem_append_right _ (List.mem_append_right _ (List.mem_append_right _ (List.mem_append_right _ h))))) (by decide +kernel)) rfl rfl rfl (by decide +kernel) ⟨Nat.le_of_ble_eq_true rfl, Nat.le_of_ble_eq_true rfl⟩) ⟨fun a U g mk q => by obtain ⟨q0, q1, qP, qK, qD⟩ := q; exact ⟨q0, q1, qP, va_K.moved (u := U) (U := U.calling g mk a) (Vm.Alike.refl U.vm) qK, qD⟩, fun U hU hW => ⟨rfl, by rw [hU], by rw [hU]; exact hPc3, va_K.moved hW.alike hKc3, hDc3.weaken (fun _ _ _ _ => trivial)⟩⟩ rfl rfl hl.1 rfl (lv_room (Nat.le_of_ble_eq_true rfl)) dJ0_checkIndex_df160_5 ⟨Nat.le_of_ble_eq_true rfl, Nat.le_of_ble_eq_true rfl⟩) hS (fun q _ h => hFc3 q h) hFc3 (fun r4 u4 t4 H4 lo4 ht4 hvm4 hw4 hB4 hz4 hk4 hS4 => ?_)
    obtain ⟨hP1_4, hK1_4, hD1_4⟩ := hB4
    rw [ht4] at hP1_4
    replace hK1_4 := va_K.moved hvm4.symm hK1_4
    obtain ⟨hP4, hD4⟩ := va_join (wr := []) (w1 := []) hP hD [] [] rfl rfl (by decide) (by decide) hk4 hFc3 hP1_4 hD1_4
    have hK4 := (hK.sub (tys' := []) [] rfl).app hK1_4
    replace hK4 : va_K (dC, dI) vwCl [] s := hK4
    replace hP4 : va_P (dC, dI) vwCl [] H4 := hP4
    replace hD4 : va_D A [] := hD4
    clear hP1_4 hD1_4 hK1_4 hk4 hFc3 hPc3 hDc3 hKc3 hz4 ht4 hvm4 hP hD hS hK
    refine W.widen (k := 0) (n := 0) (Nat.le_of_ble_eq_true rfl) (Nat.le_of_ble_eq_true rfl) ?_
    obtain rfl : r4 = a := hw4
    refine lv_pop hx hb dJ0_checkIndex_df160_8 rfl ?_
    exact W.vret hx hb hr (fun t ht hW => ⟨⟨(), rfl, trivial, by rw [ht]; exact hP4, va_K.moved hW.alike hK4, hD4⟩, hS4.F ht⟩) hS4.2.2 dJ0_checkIndex_df160_9
theorem in_of {k : Int32} {N : Nat} (hN : N < 2 ^ 31) (h0 : ¬ k < 0) (h1 : k < nI N) : vp_in k N := by
  obtain ⟨j, hj, rfl⟩ := nI_of h0
  exact vp_in_nI ((nI_ltI hj hN).mp h1) hN
set_option maxRecDepth 20000 in
def ww_charAt1 : List Cond := .code yJ1_charAt_3b067 cJ1_charAt_3b067 2 (some .char) :: ([] ++ (ww_scheck ++ ((va_wsS RJ1 9 yJ0_checkIndex_df160 ww_scheck))))
set_option maxHeartbeats 40000000 in
set_option maxRecDepth 100000 in
/-- StringLatin1.charAt -/
theorem c_charAt1 (l : Launch) (dC : Nat → ClassId) (dI : Nat → Nat → Nat) (z0 : Nat) (adK : Nat → Nat) (adV : Nat → Nat) (i : Nat) (k : Int32) (hi : i < 4) (hk0 : ¬ k < 0) (hk1 : k < nI (jlen.getD i 0)) (sz : Nat) : Met l yJ1_charAt_3b067 ww_charAt1 ({ frames := 3, cells := 0, slots := 0, locals := 300 }) (va_Pc [.ref (adV i), .int k] (fun U => U.heap.size = sz ∧ va_P (dC, dI) vwCl [] U.heap ∧ va_K (dC, dI) vwCl [] U ∧ va_D (fun _ => True) [] ∧ ev z0 adK adV (va_A [] sz) U U.heap)) (va_Qi (fun (r : Int32) (_ : Unit) => narrow .char (.int r) = .int r) (fun (_ : Unit) (t : State) => va_P (dC, dI) vwCl [] t.heap ∧ va_K (dC, dI) vwCl [] t ∧ va_D (va_A [] sz) []) (va_A [] sz)) 0 0 (va_A [] sz) := by
  refine Met.ofW (cc := cJ1_charAt_3b067) (maxL := 2) (ret := (some .char)) (by decide) rfl ?_
  intro p e s m args below meth c s₁ B hml hv
  obtain ⟨rfl, hsz, hP, hK, hD0, hE⟩ := hv
  have hx := B.exec
  have hb := B.bytes
  have hr := B.returns
  have hts := atoms_spec (ws := ww_charAt1) B.pre
  have hown : s.vm.findClass RJ1 = some m.cls := findClass_of_methodNamed B.named
  have hlocks := B.notSynchronized
  subst hsz
  have hD := hD0.self (sz := s.heap.size)
  generalize hAe : va_A [] s.heap.size = A at hD hE ⊢
  have hA : ∀ q : Nat, s.heap.size ≤ q → A q := fun q h => by rw [← hAe]; exact Or.inr h
  have hS : va_S A s.heap s.heap [] := va_S.rf
  have hP : va_P (dC, dI) vwCl [] s.heap := hP
  have hl := lv_entry ([.ref (adV i), .int k]) (n := 2) (Nat.le_of_ble_eq_true rfl)
  rw [lg_entry_eq]
  generalize (lg_sl ([.ref (adV i), .int k]) ++ List.replicate (2 - (lg_sl ([.ref (adV i), .int k])).length) Slot.unset).toArray = ls at hl ⊢
  have hl : lv_has ls 2 [(0, .ref (adV i)), (1, .int k)] := hl
  refine lv_iload_n hx hb dJ1_charAt_3b067_0 rfl (lv_at hl 1 rfl) ?_
  refine lv_aload_n hx hb dJ1_charAt_3b067_1 rfl (lv_at hl 0 rfl) ?_
  refine va_tlen (v := nI (jlen.getD i 0)) hx hb (hE.2.2.2.2.2.1.1 i hi).2.2.2 hS rfl dJ1_charAt_3b067_2 ?_
  have hPc1 := hP.sub (ws' := []) [] rfl
  have hDc1 := hD.sub (ws' := []) [] (by decide) rfl
  have hKc1 := hK.sub (tys' := []) [] rfl
  have hFc1 := va_free (wc := []) hD hS hA [] rfl
  refine va_callv (va_runS (As := [.int k, .int (nI (jlen.getD i 0))]) (rest := []) ⟨hx, hb, hml, hown, hts⟩ (c_scheck l dC dI (z0) (adK) (adV) (k) ((nI (jlen.getD i 0))) hk0 hk1 s.heap.size) (va_cwS 2 hts (goodIn_sub (fun w h => List.mem_cons_of_mem _ (List.mem_append_right _ (List.mem_append_right _ h))) (by decide +kernel)) rfl rfl rfl (by decide +kernel) ⟨Nat.le_of_ble_eq_true rfl, Nat.le_of_ble_eq_true rfl⟩) ⟨fun a U g mk q => by obtain ⟨q0, q1, qP, qK, qD, qE0⟩ := q; exact ⟨q0, q1, qP, va_K.moved (u := U) (U := U.calling g mk a) (Vm.Alike.refl U.vm) qK, qD, ev_call rfl qE0⟩, fun U hU hW => ⟨rfl, by rw [hU], by rw [hU]; exact hPc1, va_K.moved hW.alike hKc1, hDc1.weaken (fun _ _ _ _ => trivial), by rw [hU]; exact ev_pass hW hE hS hFc1⟩⟩ rfl rfl hl.1 rfl (lv_room (Nat.le_of_ble_eq_true rfl)) dJ1_charAt_3b067_3 ⟨Nat.le_of_ble_eq_true rfl, Nat.le_of_ble_eq_true rfl⟩) hS (fun q _ h => hFc1 q h) hFc1 (fun u2 t2 H2 lo2 ht2 hvm2 hw2 hB2 hz2 hk2 hS2 => ?_)
  obtain ⟨hP1_2, hK1_2, hD1_2⟩ := hB2
  rw [ht2] at hP1_2
  replace hK1_2 := va_K.moved hvm2.symm hK1_2
  obtain ⟨hP2, hD2⟩ := va_join (wr := []) (w1 := []) hP hD [] [] rfl rfl (by decide) (by decide) hk2 hFc1 hP1_2 hD1_2
  have hK2 := (hK.sub (tys' := []) [] rfl).app hK1_2
  replace hK2 : va_K (dC, dI) vwCl [] s := hK2
  replace hP2 : va_P (dC, dI) vwCl [] H2 := hP2
  replace hD2 : va_D A [] := hD2
  clear hP1_2 hD1_2 hK1_2 hk2 hFc1 hPc1 hDc1 hKc1 hz2 ht2 hvm2 hP hD hS hK
  refine W.widen (k := 0) (n := 0) (Nat.le_of_ble_eq_true rfl) (Nat.le_of_ble_eq_true rfl) ?_
  refine lv_aload_n hx hb dJ1_charAt_3b067_6 rfl (lv_at hl 0 rfl) ?_
  refine lv_iload_n hx hb dJ1_charAt_3b067_7 rfl (lv_at hl 1 rfl) ?_
  refine va_tb hx hb (hE.2.2.2.2.2.1.1 i hi).2.2.2 hS2 (in_of (jl_lt i hi) hk0 hk1) rfl dJ1_charAt_3b067_8 ?_
  refine lv_topi (fun x3 ex3 => ?_)
  refine lv_sipush (v := 255) hx hb dJ1_charAt_3b067_9 (by decide) ?_
  refine lv_iand hx hb dJ1_charAt_3b067_12 ?_
  refine lv_topi (fun x4 ex4 => ?_)
  refine lv_i2c hx hb dJ1_charAt_3b067_13 rfl ?_
  refine lv_topi (fun x5 ex5 => ?_)
  exact W.zret (v := x5) hx hb hr (by rw [ex5]; exact pk_nc _) (fun t ht hW => ⟨⟨_, (), rfl, (by rw [ex5]; exact pk_nc _), by rw [ht]; exact hP2, va_K.moved hW.alike hK2, hD2⟩, hS2.F ht⟩) hS2.2.2 dJ1_charAt_3b067_14
set_option maxRecDepth 20000 in
def ww_charAt : List Cond := .code yJ0_charAt_5068e cJ0_charAt_5068e 2 (some .char) :: ([Cond.fieldLink RJ0 9 "java/lang/String" "value" "[B"] ++ (ww_isLatin1 ++ ((wsV RJ0 492 RJ0 yJ0_isLatin1_aae02 ww_isLatin1) ++ (ww_charAt1 ++ ((va_wsS RJ0 495 yJ1_charAt_3b067 ww_charAt1))))))
set_option maxHeartbeats 40000000 in
set_option maxRecDepth 100000 in
/-- charAt of a text constant -/
theorem c_charAt (l : Launch) (dC : Nat → ClassId) (dI : Nat → Nat → Nat) (z0 : Nat) (adK : Nat → Nat) (adV : Nat → Nat) (i : Nat) (k : Int32) (hi : i < 4) (hk0 : ¬ k < 0) (hk1 : k < nI (jlen.getD i 0)) (sz : Nat) : Met l yJ0_charAt_5068e ww_charAt ({ frames := 4, cells := 0, slots := 0, locals := 400 }) (va_Pc [.ref (adK i), .int k] (fun U => U.heap.size = sz ∧ va_P (dC, dI) vwCl [] U.heap ∧ va_K (dC, dI) vwCl [] U ∧ va_D (fun _ => True) [] ∧ ev z0 adK adV (va_A [] sz) U U.heap)) (va_Qi (fun (r : Int32) (_ : Unit) => narrow .char (.int r) = .int r) (fun (_ : Unit) (t : State) => va_P (dC, dI) vwCl [] t.heap ∧ va_K (dC, dI) vwCl [] t ∧ va_D (va_A [] sz) []) (va_A [] sz)) 0 0 (va_A [] sz) := by
  refine Met.ofW (cc := cJ0_charAt_5068e) (maxL := 2) (ret := (some .char)) (by decide) rfl ?_
  intro p e s m args below meth c s₁ B hml hv
  obtain ⟨rfl, hsz, hP, hK, hD0, hE⟩ := hv
  have hx := B.exec
  have hb := B.bytes
  have hr := B.returns
  have hts := atoms_spec (ws := ww_charAt) B.pre
  have hown : s.vm.findClass RJ0 = some m.cls := findClass_of_methodNamed B.named
  have hlocks := B.notSynchronized
  subst hsz
  have hD := hD0.self (sz := s.heap.size)
  generalize hAe : va_A [] s.heap.size = A at hD hE ⊢
  have hA : ∀ q : Nat, s.heap.size ≤ q → A q := fun q h => by rw [← hAe]; exact Or.inr h
  have hS : va_S A s.heap s.heap [] := va_S.rf
  have hP : va_P (dC, dI) vwCl [] s.heap := hP
  have hl := lv_entry ([.ref (adK i), .int k]) (n := 2) (Nat.le_of_ble_eq_true rfl)
  rw [lg_entry_eq]
  generalize (lg_sl ([.ref (adK i), .int k]) ++ List.replicate (2 - (lg_sl ([.ref (adK i), .int k])).length) Slot.unset).toArray = ls at hl ⊢
  have hl : lv_has ls 2 [(0, .ref (adK i)), (1, .int k)] := hl
  refine lv_aload_n hx hb dJ0_charAt_5068e_0 rfl (lv_at hl 0 rfl) ?_
  have hPc1 := hP.sub (ws' := []) [] rfl
  have hDc1 := hD.sub (ws' := []) [] (by decide) rfl
  have hKc1 := hK.sub (tys' := []) [] rfl
  have hFc1 := va_free (wc := []) hD hS hA [] rfl
  refine va_calli (va_runV (As := []) (rest := []) ⟨hx, hb, hml, hown, hts⟩ (c_isLatin1 l dC dI (z0) (adK) (adV) (i) hi s.heap.size) (cwV 0 hts (goodIn_sub (fun w h => List.mem_cons_of_mem _ (List.mem_append_right _ (List.mem_append_right _ (List.mem_append_left _ h)))) (by decide +kernel)) rfl rfl rfl (by decide +kernel) ⟨Nat.le_of_ble_eq_true rfl, Nat.le_of_ble_eq_true rfl⟩) ⟨fun a U g mk q => by obtain ⟨q0, q1, qP, qK, qD, qE0⟩ := q; exact ⟨q0, q1, qP, va_K.moved (u := U) (U := U.calling g mk a) (Vm.Alike.refl U.vm) qK, qD, ev_call rfl qE0⟩, vk_recv hE.2.2.2.2.2.1 (i := i) hi hS, fun U hU hW => ⟨rfl, by rw [hU], by rw [hU]; exact hPc1, va_K.moved hW.alike hKc1, hDc1.weaken (fun _ _ _ _ => trivial), by rw [hU]; exact ev_pass hW hE hS hFc1⟩⟩ rfl rfl hl.1 rfl (lv_room (Nat.le_of_ble_eq_true rfl)) dJ0_charAt_5068e_1 ⟨Nat.le_of_ble_eq_true rfl, Nat.le_of_ble_eq_true rfl⟩) hS (fun q _ h => hFc1 q h) hFc1 (fun r2 u2 t2 H2 lo2 ht2 hvm2 hw2 hB2 hz2 hk2 hS2 => ?_)
  obtain ⟨hP1_2, hK1_2, hD1_2⟩ := hB2
  rw [ht2] at hP1_2
  replace hK1_2 := va_K.moved hvm2.symm hK1_2
  obtain ⟨hP2, hD2⟩ := va_join (wr := []) (w1 := []) hP hD [] [] rfl rfl (by decide) (by decide) hk2 hFc1 hP1_2 hD1_2
  have hK2 := (hK.sub (tys' := []) [] rfl).app hK1_2
  replace hK2 : va_K (dC, dI) vwCl [] s := hK2
  replace hP2 : va_P (dC, dI) vwCl [] H2 := hP2
  replace hD2 : va_D A [] := hD2
  clear hP1_2 hD1_2 hK1_2 hk2 hFc1 hPc1 hDc1 hKc1 hz2 ht2 hvm2 hP hD hS hK
  refine W.widen (k := 0) (n := 0) (Nat.le_of_ble_eq_true rfl) (Nat.le_of_ble_eq_true rfl) ?_
  obtain rfl : r2 = 1 := hw2
  refine lv_if_eq (tgt := 16) hx hb dJ0_charAt_5068e_4 (by decide) (fun hc => absurd hc (by decide)) (fun _ => ?_)
  refine lv_aload_n hx hb dJ0_charAt_5068e_7 rfl (lv_at hl 0 rfl) ?_
  refine vk_getf hx hb (hE.2.2.2.2.2.1.1 i hi).2.2.1 hS2 hown (hts _ (List.mem_cons_of_mem _ (List.mem_append_left _ (List.mem_of_getElem? (i := 0) rfl)))) (fun _ h9 => h9) dJ0_charAt_5068e_8 ?_
  refine lv_iload_n hx hb dJ0_charAt_5068e_11 rfl (lv_at hl 1 rfl) ?_
  have hPc4 := hP2.sub (ws' := []) [] rfl
  have hDc4 := hD2.sub (ws' := []) [] (by decide) rfl
  have hKc4 := hK2.sub (tys' := []) [] rfl
  have hFc4 := va_free (wc := []) hD2 hS2 hA [] rfl
  refine va_calli (va_runS (As := [.ref (adV i), .int k]) (rest := []) ⟨hx, hb, hml, hown, hts⟩ (c_charAt1 l dC dI (z0) (adK) (adV) (i) (k) hi hk0 hk1 H2.size) (va_cwS 2 hts (goodIn_sub (fun w h => List.mem_cons_of_mem _ (List.mem_append_right _ (List.mem_append_right _ (List.mem_append_right _ (List.mem_append_right _ h))))) (by decide +kernel)) rfl rfl rfl (by decide +kernel) ⟨Nat.le_of_ble_eq_true rfl, Nat.le_of_ble_eq_true rfl⟩) ⟨fun a U g mk q => by obtain ⟨q0, q1, qP, qK, qD, qE0⟩ := q; exact ⟨q0, q1, qP, va_K.moved (u := U) (U := U.calling g mk a) (Vm.Alike.refl U.vm) qK, qD, ev_call rfl qE0⟩, fun U hU hW => ⟨rfl, by rw [hU], by rw [hU]; exact hPc4, va_K.moved hW.alike hKc4, hDc4.weaken (fun _ _ _ _ => trivial), by rw [hU]; exact ev_pass hW hE hS2 hFc4⟩⟩ rfl rfl hl.1 rfl (lv_room (Nat.le_of_ble_eq_true rfl)) dJ0_charAt_5068e_12 ⟨Nat.le_of_ble_eq_true rfl, Nat.le_of_ble_eq_true rfl⟩) hS2 (fun q _ h => hFc4 q h) hFc4 (fun r5 u5 t5 H5 lo5 ht5 hvm5 hw5 hB5 hz5 hk5 hS5 => ?_)
  obtain ⟨hP1_5, hK1_5, hD1_5⟩ := hB5
  rw [ht5] at hP1_5
  replace hK1_5 := va_K.moved hvm5.symm hK1_5
  obtain ⟨hP5, hD5⟩ := va_join (wr := []) (w1 := []) hP2 hD2 [] [] rfl rfl (by decide) (by decide) hk5 hFc4 hP1_5 hD1_5
  have hK5 := (hK2.sub (tys' := []) [] rfl).app hK1_5
  replace hK5 : va_K (dC, dI) vwCl [] s := hK5
  replace hP5 : va_P (dC, dI) vwCl [] H5 := hP5
  replace hD5 : va_D A [] := hD5
  clear hP1_5 hD1_5 hK1_5 hk5 hFc4 hPc4 hDc4 hKc4 hz5 ht5 hvm5 hP2 hD2 hS2 hK2 H2
  clear lo2
  refine W.widen (k := 0) (n := 0) (Nat.le_of_ble_eq_true rfl) (Nat.le_of_ble_eq_true rfl) ?_
  exact W.zret (v := r5) hx hb hr hw5 (fun t ht hW => ⟨⟨_, (), rfl, hw5, by rw [ht]; exact hP5, va_K.moved hW.alike hK5, hD5⟩, hS5.F ht⟩) hS5.2.2 dJ0_charAt_5068e_15
set_option maxRecDepth 20000 in
def ww_acinit : List Cond := .code yJxa1e45_init_da8c8 cJxa1e45_init_da8c8 1 none :: ([Cond.methodLink RJxa1e45 1 objectInit, Cond.instanceMethod objectInit, Cond.code objectInit ⟨#[0xb1]⟩ 1 none] ++ (([] : List Cond)))
set_option maxHeartbeats 40000000 in
set_option maxRecDepth 100000 in
/-- AbstractCollection() -/
theorem c_acinit (l : Launch) (dC : Nat → ClassId) (dI : Nat → Nat → Nat) (h0 : Nat) (sz : Nat) : Met l yJxa1e45_init_da8c8 ww_acinit ({ frames := 1, cells := 0, slots := 0, locals := 100 }) (va_Pc [.ref h0] (fun U => U.heap.size = sz ∧ va_P (dC, dI) vwCl [] U.heap ∧ va_K (dC, dI) vwCl [] U ∧ va_D (fun _ => True) [])) (va_Qv (fun _ : Unit => True) (fun (_ : Unit) (t : State) => va_P (dC, dI) vwCl [] t.heap ∧ va_K (dC, dI) vwCl [] t ∧ va_D (va_A [] sz) []) (va_A [] sz)) 0 0 (va_A [] sz) := by
  refine Met.ofW (cc := cJxa1e45_init_da8c8) (maxL := 1) (ret := none) (by decide) rfl ?_
  intro p e s m args below meth c s₁ B hml hv
  obtain ⟨rfl, hsz, hP, hK, hD0⟩ := hv
  have hx := B.exec
  have hb := B.bytes
  have hr := B.returns
  have hts := atoms_spec (ws := ww_acinit) B.pre
  have hown : s.vm.findClass RJxa1e45 = some m.cls := findClass_of_methodNamed B.named
  have hlocks := B.notSynchronized
  have hin : meth.name = "<init>" := (name_of_methodNamed B.named B.method).1
  subst hsz
  have hD := hD0.self (sz := s.heap.size)
  generalize hAe : va_A [] s.heap.size = A at hD ⊢
  have hA : ∀ q : Nat, s.heap.size ≤ q → A q := fun q h => by rw [← hAe]; exact Or.inr h
  have hS : va_S A s.heap s.heap [] := va_S.rf
  have hP : va_P (dC, dI) vwCl [] s.heap := hP
  have hl := lv_entry ([.ref h0]) (n := 1) (Nat.le_of_ble_eq_true rfl)
  rw [lg_entry_eq]
  generalize (lg_sl ([.ref h0]) ++ List.replicate (1 - (lg_sl ([.ref h0])).length) Slot.unset).toArray = ls at hl ⊢
  have hl : lv_has ls 1 [(0, .ref h0)] := hl
  refine lv_aload_n hx hb dJxa1e45_init_da8c8_0 rfl (lv_at hl 0 rfl) ?_
  refine W.objInit hx hb hown (hts _ (List.mem_cons_of_mem _ (List.mem_append_left _ (List.mem_of_getElem? (i := 0) rfl)))) (hts _ (List.mem_cons_of_mem _ (List.mem_append_left _ (List.mem_of_getElem? (i := 1) rfl)))) (hts _ (List.mem_cons_of_mem _ (List.mem_append_left _ (List.mem_of_getElem? (i := 2) rfl)))) rfl (by rw [hml]; exact hl.1) rfl dJxa1e45_init_da8c8_1 (Nat.le_of_ble_eq_true rfl) (Nat.le_of_ble_eq_true rfl) ?_
  refine W.eq (g2 := F0 m 4 ls []) rfl ?_
  exact W.vret hx hb hr (fun t ht hW => ⟨⟨(), rfl, trivial, by rw [ht]; exact hP, va_K.moved hW.alike hK, hD⟩, hS.F ht⟩) hS.2.2 dJxa1e45_init_da8c8_4
set_option maxRecDepth 20000 in
def ww_alinit : List Cond := .code yJxc12de_init_da8c8 cJxc12de_init_da8c8 1 none :: ([Cond.initialized RJxa1e45, Cond.methodLink RJxc12de 1 yJxa1e45_init_da8c8, Cond.instanceMethod yJxa1e45_init_da8c8, Cond.fieldLink RJxc12de 7 "java/util/AbstractList" "modCount" "I"] ++ (ww_acinit ++ (wsJx4a65c0)))
set_option maxHeartbeats 40000000 in
set_option maxRecDepth 100000 in
/-- AbstractList() -/
theorem c_alinit (l : Launch) (dC : Nat → ClassId) (dI : Nat → Nat → Nat) (h0 : Nat) (sz : Nat) : Met l yJxc12de_init_da8c8 ww_alinit ({ frames := 2, cells := 0, slots := 0, locals := 200 }) (va_Pc [.ref h0] (fun U => U.heap.size = sz ∧ va_P (dC, dI) vwCl [(h0, .inr (0, [.int 0, .null, .int 0]))] U.heap ∧ va_K (dC, dI) vwCl [] U ∧ va_D (fun _ => True) [(h0, .inr (0, [.int 0, .null, .int 0]))])) (va_Qv (fun _ : Unit => True) (fun (_ : Unit) (t : State) => va_P (dC, dI) vwCl [(h0, .inr (0, [.int 0, .null, .int 0]))] t.heap ∧ va_K (dC, dI) vwCl [] t ∧ va_D (va_A [(h0, .inr (0, [.int 0, .null, .int 0]))] sz) [(h0, .inr (0, [.int 0, .null, .int 0]))]) (va_A [(h0, .inr (0, [.int 0, .null, .int 0]))] sz)) 0 0 (va_A [(h0, .inr (0, [.int 0, .null, .int 0]))] sz) := by
  refine Met.ofW (cc := cJxc12de_init_da8c8) (maxL := 1) (ret := none) (by decide) rfl ?_
  intro p e s m args below meth c s₁ B hml hv
  obtain ⟨rfl, hsz, hP, hK, hD0⟩ := hv
  have hx := B.exec
  have hb := B.bytes
  have hr := B.returns
  have hts := atoms_spec (ws := ww_alinit) B.pre
  have hown : s.vm.findClass RJxc12de = some m.cls := findClass_of_methodNamed B.named
  have hlocks := B.notSynchronized
  have hin : meth.name = "<init>" := (name_of_methodNamed B.named B.method).1
  subst hsz
  have hD := hD0.self (sz := s.heap.size)
  generalize hAe : va_A [(h0, .inr (0, [.int 0, .null, .int 0]))] s.heap.size = A at hD ⊢
  have hA : ∀ q : Nat, s.heap.size ≤ q → A q := fun q h => by rw [← hAe]; exact Or.inr h
  have hS : va_S A s.heap s.heap [] := va_S.rf
  have hP : va_P (dC, dI) vwCl [(h0, .inr (0, [.int 0, .null, .int 0]))] s.heap := hP
  have hl := lv_entry ([.ref h0]) (n := 1) (Nat.le_of_ble_eq_true rfl)
  rw [lg_entry_eq]
  generalize (lg_sl ([.ref h0]) ++ List.replicate (1 - (lg_sl ([.ref h0])).length) Slot.unset).toArray = ls at hl ⊢
  have hl : lv_has ls 1 [(0, .ref h0)] := hl
  refine lv_aload_n hx hb dJxc12de_init_da8c8_0 rfl (lv_at hl 0 rfl) ?_
  have hPc1 := hP.sub (ws' := []) [] rfl
  have hDc1 := hD.sub (ws' := []) [] (by decide) rfl
  have hKc1 := hK.sub (tys' := []) [] rfl
  have hFc1 := va_free (wc := []) hD hS hA [] rfl
  refine va_callv (va_runI (As := []) (rest := []) ⟨hx, hb, hml, hown, hts⟩ (c_acinit l dC dI (h0) s.heap.size) (cwI 0 hts (goodIn_sub (fun w h => List.mem_cons_of_mem _ (List.mem_append_right _ (List.mem_append_left _ h))) (by decide +kernel)) rfl rfl rfl (hts _ (List.mem_cons_of_mem _ (List.mem_append_left _ (List.mem_of_getElem? (i := 0) rfl)))) (hts _ (List.mem_cons_of_mem _ (List.mem_append_left _ (List.mem_of_getElem? (i := 1) rfl)))) (hts _ (List.mem_cons_of_mem _ (List.mem_append_left _ (List.mem_of_getElem? (i := 2) rfl)))) rfl (by decide +kernel) ⟨Nat.le_of_ble_eq_true rfl, Nat.le_of_ble_eq_true rfl⟩) ⟨fun a U g mk q => by obtain ⟨q0, q1, qP, qK, qD⟩ := q; exact ⟨q0, q1, qP, va_K.moved (u := U) (U := U.calling g mk a) (Vm.Alike.refl U.vm) qK, qD⟩, fun U hU hW => ⟨rfl, by rw [hU], by rw [hU]; exact hPc1, va_K.moved hW.alike hKc1, hDc1.weaken (fun _ _ _ _ => trivial)⟩⟩ rfl rfl hl.1 rfl (lv_room (Nat.le_of_ble_eq_true rfl)) dJxc12de_init_da8c8_1 ⟨Nat.le_of_ble_eq_true rfl, Nat.le_of_ble_eq_true rfl⟩) hS (fun q _ h => hFc1 q h) hFc1 (fun u2 t2 H2 lo2 ht2 hvm2 hw2 hB2 hz2 hk2 hS2 => ?_)
  obtain ⟨hP1_2, hK1_2, hD1_2⟩ := hB2
  rw [ht2] at hP1_2
  replace hK1_2 := va_K.moved hvm2.symm hK1_2
  obtain ⟨hP2, hD2⟩ := va_join (wr := [(h0, .inr (0, [.int 0, .null, .int 0]))]) (w1 := []) hP hD [] [0] rfl rfl (by decide) (by decide) hk2 hFc1 hP1_2 hD1_2
  have hK2 := (hK.sub (tys' := []) [] rfl).app hK1_2
  replace hK2 : va_K (dC, dI) vwCl [] s := hK2
  replace hP2 : va_P (dC, dI) vwCl [(h0, .inr (0, [.int 0, .null, .int 0]))] H2 := hP2
  replace hD2 : va_D A [(h0, .inr (0, [.int 0, .null, .int 0]))] := hD2
  clear hP1_2 hD1_2 hK1_2 hk2 hFc1 hPc1 hDc1 hKc1 hz2 ht2 hvm2 hP hD hS hK
  refine W.widen (k := 0) (n := 0) (Nat.le_of_ble_eq_true rfl) (Nat.le_of_ble_eq_true rfl) ?_
  refine lv_aload_n hx hb dJxc12de_init_da8c8_4 rfl (lv_at hl 0 rfl) ?_
  refine lv_iconst (v := 0) hx hb dJxc12de_init_da8c8_5 (by decide) ?_
  refine va_put (D := (dC, dI)) (ci := 0) (v := .int 0) (ty := tyJx4a65c 0) (C := RJx4a65c) (T := TJx4a65c) (N := 3) hx hb hts (fun w h => List.mem_cons_of_mem _ (List.mem_append_right _ (List.mem_append_right _ h))) tyJx4a65c tyJx4a65c_ok nmJx4a65c hown hK2 hP2 hD2 hS2 0 rfl rfl 0 (by decide) (hts _ (List.mem_cons_of_mem _ (List.mem_append_left _ (List.mem_of_getElem? (i := 3) rfl)))) (fun _ h9 => h9) rfl (tyJx4a65c_ok 0 (by decide)) rfl rfl (Nat.le_of_ble_eq_true rfl) dJxc12de_init_da8c8_6 (fun H3 lo3 hP3 hD3 hS3 => ?_)
  clear hP2 hD2 hS2 H2 lo2
  replace hP3 : va_P (dC, dI) vwCl [(h0, .inr (0, [.int 0, .null, .int 0]))] H3 := hP3
  replace hD3 : va_D A [(h0, .inr (0, [.int 0, .null, .int 0]))] := hD3
  exact W.vret hx hb hr (fun t ht hW => ⟨⟨(), rfl, trivial, by rw [ht]; exact hP3, va_K.moved hW.alike hK2, hD3⟩, hS3.F ht⟩) hS3.2.2 dJxc12de_init_da8c8_9
set_option maxRecDepth 20000 in
def ww_listinit : List Cond := .code yJx4a65c_init_da8c8 cJx4a65c_init_da8c8 1 none :: ([Cond.initialized RJxc12de, Cond.methodLink RJx4a65c 1 yJxc12de_init_da8c8, Cond.instanceMethod yJxc12de_init_da8c8, Cond.fieldLink RJx4a65c 39 "java/util/ArrayList" "DEFAULTCAPACITY_EMPTY_ELEMENTDATA" "[Ljava/lang/Object;", Cond.fieldLink RJx4a65c 9 "java/util/ArrayList" "elementData" "[Ljava/lang/Object;"] ++ (ww_alinit ++ (wsJx4a65c0)))
set_option maxHeartbeats 40000000 in
set_option maxRecDepth 100000 in
/-- ArrayList() -/
theorem c_listinit (l : Launch) (dC : Nat → ClassId) (dI : Nat → Nat → Nat) (z0 : Nat) (adK : Nat → Nat) (adV : Nat → Nat) (h0 : Nat) (sz : Nat) : Met l yJx4a65c_init_da8c8 ww_listinit ({ frames := 3, cells := 0, slots := 0, locals := 300 }) (va_Pc [.ref h0] (fun U => U.heap.size = sz ∧ va_P (dC, dI) vwCl [(h0, .inr (0, [.int 0, .null, .int 0]))] U.heap ∧ va_K (dC, dI) vwCl [] U ∧ va_D (fun _ => True) [(h0, .inr (0, [.int 0, .null, .int 0]))] ∧ ev z0 adK adV (va_A [(h0, .inr (0, [.int 0, .null, .int 0]))] sz) U U.heap)) (va_Qv (fun _ : Unit => True) (fun (_ : Unit) (t : State) => va_P (dC, dI) vwCl [(h0, .inr (0, [.int 0, .ref z0, .int 0]))] t.heap ∧ va_K (dC, dI) vwCl [] t ∧ va_D (va_A [(h0, .inr (0, [.int 0, .null, .int 0]))] sz) [(h0, .inr (0, [.int 0, .ref z0, .int 0]))]) (va_A [(h0, .inr (0, [.int 0, .null, .int 0]))] sz)) 0 0 (va_A [(h0, .inr (0, [.int 0, .null, .int 0]))] sz) := by
  refine Met.ofW (cc := cJx4a65c_init_da8c8) (maxL := 1) (ret := none) (by decide) rfl ?_
  intro p e s m args below meth c s₁ B hml hv
  obtain ⟨rfl, hsz, hP, hK, hD0, hE⟩ := hv
  have hx := B.exec
  have hb := B.bytes
  have hr := B.returns
  have hts := atoms_spec (ws := ww_listinit) B.pre
  have hown : s.vm.findClass RJx4a65c = some m.cls := findClass_of_methodNamed B.named
  have hlocks := B.notSynchronized
  have hin : meth.name = "<init>" := (name_of_methodNamed B.named B.method).1
  subst hsz
  have hD := hD0.self (sz := s.heap.size)
  generalize hAe : va_A [(h0, .inr (0, [.int 0, .null, .int 0]))] s.heap.size = A at hD hE ⊢
  have hA : ∀ q : Nat, s.heap.size ≤ q → A q := fun q h => by rw [← hAe]; exact Or.inr h
  have hS : va_S A s.heap s.heap [] := va_S.rf
  have hP : va_P (dC, dI) vwCl [(h0, .inr (0, [.int 0, .null, .int 0]))] s.heap := hP
  have hl := lv_entry ([.ref h0]) (n := 1) (Nat.le_of_ble_eq_true rfl)
  rw [lg_entry_eq]
  generalize (lg_sl ([.ref h0]) ++ List.replicate (1 - (lg_sl ([.ref h0])).length) Slot.unset).toArray = ls at hl ⊢
  have hl : lv_has ls 1 [(0, .ref h0)] := hl
  refine lv_aload_n hx hb dJx4a65c_init_da8c8_0 rfl (lv_at hl 0 rfl) ?_
  have hPc1 := hP.sub (ws' := [(h0, .inr (0, [.int 0, .null, .int 0]))]) [0] rfl
  have hDc1 := hD.sub (ws' := [(h0, .inr (0, [.int 0, .null, .int 0]))]) [0] (by decide) rfl
  have hKc1 := hK.sub (tys' := []) [] rfl
  have hFc1 := va_free (wc := [(h0, .inr (0, [.int 0, .null, .int 0]))]) hD hS hA [0] rfl
  refine va_callv (va_runI (As := []) (rest := []) ⟨hx, hb, hml, hown, hts⟩ (c_alinit l dC dI (h0) s.heap.size) (cwI 0 hts (goodIn_sub (fun w h => List.mem_cons_of_mem _ (List.mem_append_right _ (List.mem_append_left _ h))) (by decide +kernel)) rfl rfl rfl (hts _ (List.mem_cons_of_mem _ (List.mem_append_left _ (List.mem_of_getElem? (i := 0) rfl)))) (hts _ (List.mem_cons_of_mem _ (List.mem_append_left _ (List.mem_of_getElem? (i := 1) rfl)))) (hts _ (List.mem_cons_of_mem _ (List.mem_append_left _ (List.mem_of_getElem? (i := 2) rfl)))) rfl (by decide +kernel) ⟨Nat.le_of_ble_eq_true rfl, Nat.le_of_ble_eq_true rfl⟩) ⟨fun a U g mk q => by obtain ⟨q0, q1, qP, qK, qD⟩ := q; exact ⟨q0, q1, qP, va_K.moved (u := U) (U := U.calling g mk a) (Vm.Alike.refl U.vm) qK, qD⟩, fun U hU hW => ⟨rfl, by rw [hU], by rw [hU]; exact hPc1, va_K.moved hW.alike hKc1, hDc1.weaken (fun _ _ _ _ => trivial)⟩⟩ rfl rfl hl.1 rfl (lv_room (Nat.le_of_ble_eq_true rfl)) dJx4a65c_init_da8c8_1 ⟨Nat.le_of_ble_eq_true rfl, Nat.le_of_ble_eq_true rfl⟩) hS (fun q _ h => hFc1 q h) hFc1 (fun u2 t2 H2 lo2 ht2 hvm2 hw2 hB2 hz2 hk2 hS2 => ?_)
  obtain ⟨hP1_2, hK1_2, hD1_2⟩ := hB2
  rw [ht2] at hP1_2
  replace hK1_2 := va_K.moved hvm2.symm hK1_2
  obtain ⟨hP2, hD2⟩ := va_join (wr := []) (w1 := [(h0, .inr (0, [.int 0, .null, .int 0]))]) hP hD [0] [] rfl rfl (by decide) (by decide) hk2 hFc1 hP1_2 hD1_2
  have hK2 := (hK.sub (tys' := []) [] rfl).app hK1_2
  replace hK2 : va_K (dC, dI) vwCl [] s := hK2
  replace hP2 : va_P (dC, dI) vwCl [(h0, .inr (0, [.int 0, .null, .int 0]))] H2 := hP2
  replace hD2 : va_D A [(h0, .inr (0, [.int 0, .null, .int 0]))] := hD2
  clear hP1_2 hD1_2 hK1_2 hk2 hFc1 hPc1 hDc1 hKc1 hz2 ht2 hvm2 hP hD hS hK
  refine W.widen (k := 0) (n := 0) (Nat.le_of_ble_eq_true rfl) (Nat.le_of_ble_eq_true rfl) ?_
  refine lv_aload_n hx hb dJx4a65c_init_da8c8_4 rfl (lv_at hl 0 rfl) ?_
  refine va_gets hx hb hE.2.2.1 hS2 hown (hts _ (List.mem_cons_of_mem _ (List.mem_append_left _ (List.mem_of_getElem? (i := 3) rfl)))) (fun _ h9 => h9) dJx4a65c_init_da8c8_5 ?_
  refine va_put (D := (dC, dI)) (ci := 0) (v := .ref z0) (ty := tyJx4a65c 1) (C := RJx4a65c) (T := TJx4a65c) (N := 3) hx hb hts (fun w h => List.mem_cons_of_mem _ (List.mem_append_right _ (List.mem_append_right _ h))) tyJx4a65c tyJx4a65c_ok nmJx4a65c hown hK2 hP2 hD2 hS2 0 rfl rfl 1 (by decide) (hts _ (List.mem_cons_of_mem _ (List.mem_append_left _ (List.mem_of_getElem? (i := 4) rfl)))) (fun _ h9 => h9) rfl (tyJx4a65c_ok 1 (by decide)) rfl rfl (Nat.le_of_ble_eq_true rfl) dJx4a65c_init_da8c8_8 (fun H3 lo3 hP3 hD3 hS3 => ?_)
  clear hP2 hD2 hS2 H2 lo2
  replace hP3 : va_P (dC, dI) vwCl [(h0, .inr (0, [.int 0, .ref z0, .int 0]))] H3 := hP3
  replace hD3 : va_D A [(h0, .inr (0, [.int 0, .ref z0, .int 0]))] := hD3
  exact W.vret hx hb hr (fun t ht hW => ⟨⟨(), rfl, trivial, by rw [ht]; exact hP3, va_K.moved hW.alike hK2, hD3⟩, hS3.F ht⟩) hS3.2.2 dJx4a65c_init_da8c8_11
set_option maxRecDepth 20000 in
def ww_listsize : List Cond := .code yJx4a65c_size_8abf5 cJx4a65c_size_8abf5 1 (some .int) :: ([Cond.fieldLink RJx4a65c 48 "java/util/ArrayList" "size" "I"] ++ (wsJx4a65c0))
set_option maxHeartbeats 40000000 in
set_option maxRecDepth 100000 in
/-- size() -/
theorem c_listsize (l : Launch) (dC : Nat → ClassId) (dI : Nat → Nat → Nat) (h0 : Nat) (v0 : Value) (v1 : Value) (n : Int32) (sz : Nat) : Met l yJx4a65c_size_8abf5 ww_listsize ({ frames := 1, cells := 0, slots := 0, locals := 100 }) (va_Pc [.ref h0] (fun U => U.heap.size = sz ∧ va_P (dC, dI) vwCl [(h0, .inr (0, [v0, v1, .int n]))] U.heap ∧ va_K (dC, dI) vwCl [] U ∧ va_D (fun _ => True) [(h0, .inr (0, [v0, v1, .int n]))])) (va_Qi (fun (r : Int32) (_ : Unit) => r = n) (fun (_ : Unit) (t : State) => va_P (dC, dI) vwCl [(h0, .inr (0, [v0, v1, .int n]))] t.heap ∧ va_K (dC, dI) vwCl [] t ∧ va_D (va_A [(h0, .inr (0, [v0, v1, .int n]))] sz) [(h0, .inr (0, [v0, v1, .int n]))]) (va_A [(h0, .inr (0, [v0, v1, .int n]))] sz)) 0 0 (va_A [(h0, .inr (0, [v0, v1, .int n]))] sz) := by
  refine Met.ofW (cc := cJx4a65c_size_8abf5) (maxL := 1) (ret := (some .int)) (by decide) rfl ?_
  intro p e s m args below meth c s₁ B hml hv
  obtain ⟨rfl, hsz, hP, hK, hD0⟩ := hv
  have hx := B.exec
  have hb := B.bytes
  have hr := B.returns
  have hts := atoms_spec (ws := ww_listsize) B.pre
  have hown : s.vm.findClass RJx4a65c = some m.cls := findClass_of_methodNamed B.named
  have hlocks := B.notSynchronized
  subst hsz
  have hD := hD0.self (sz := s.heap.size)
  generalize hAe : va_A [(h0, .inr (0, [v0, v1, .int n]))] s.heap.size = A at hD ⊢
  have hA : ∀ q : Nat, s.heap.size ≤ q → A q := fun q h => by rw [← hAe]; exact Or.inr h
  have hS : va_S A s.heap s.heap [] := va_S.rf
  have hP : va_P (dC, dI) vwCl [(h0, .inr (0, [v0, v1, .int n]))] s.heap := hP
  have hl := lv_entry ([.ref h0]) (n := 1) (Nat.le_of_ble_eq_true rfl)
  rw [lg_entry_eq]
  generalize (lg_sl ([.ref h0]) ++ List.replicate (1 - (lg_sl ([.ref h0])).length) Slot.unset).toArray = ls at hl ⊢
  have hl : lv_has ls 1 [(0, .ref h0)] := hl
  refine lv_aload_n hx hb dJx4a65c_size_8abf5_0 rfl (lv_at hl 0 rfl) ?_
  refine va_get (D := (dC, dI)) (ci := 0) (v := .int n) (C := RJx4a65c) (T := TJx4a65c) (N := 3) hx hb hts (fun w h => List.mem_cons_of_mem _ (List.mem_append_right _ h)) hown hK hP 0 rfl rfl 2 (by decide) (hts _ (List.mem_cons_of_mem _ (List.mem_append_left _ (List.mem_of_getElem? (i := 0) rfl)))) (fun _ h9 => h9) rfl dJx4a65c_size_8abf5_1 ?_
  exact W.iret (v := n) hx hb hr (fun t ht hW => ⟨⟨_, (), rfl, rfl, by rw [ht]; exact hP, va_K.moved hW.alike hK, hD⟩, hS.F ht⟩) hS.2.2 dJx4a65c_size_8abf5_4
set_option maxRecDepth 20000 in
def ww_longerKey : List Cond := .code yX9_longerKey cX9_longerKey 4 (some .long) :: ([] ++ (([] : List Cond)))
set_option maxHeartbeats 40000000 in
set_option maxRecDepth 100000 in
/-- longerKey -/
theorem c_longerKey (l : Launch) (dC : Nat → ClassId) (dI : Nat → Nat → Nat) (a : Int64) (b : Int32) (sz : Nat) : Met l yX9_longerKey ww_longerKey ({ frames := 1, cells := 0, slots := 0, locals := 100 }) (va_Pc [.long a, .int b] (fun U => U.heap.size = sz ∧ va_P (dC, dI) vwCl [] U.heap ∧ va_K (dC, dI) vwCl [] U ∧ va_D (fun _ => True) [])) (va_Ql (fun (r : Int64) (_ : Unit) => True) (fun (_ : Unit) (t : State) => va_P (dC, dI) vwCl [] t.heap ∧ va_K (dC, dI) vwCl [] t ∧ va_D (va_A [] sz) []) (va_A [] sz)) 0 0 (va_A [] sz) := by
  refine Met.ofW (cc := cX9_longerKey) (maxL := 4) (ret := (some .long)) (by decide) rfl ?_
  intro p e s m args below meth c s₁ B hml hv
  obtain ⟨rfl, hsz, hP, hK, hD0⟩ := hv
  have hx := B.exec
  have hb := B.bytes
  have hr := B.returns
  have hts := atoms_spec (ws := ww_longerKey) B.pre
  have hown : s.vm.findClass RX9 = some m.cls := findClass_of_methodNamed B.named
  have hlocks := B.notSynchronized
  subst hsz
  have hD := hD0.self (sz := s.heap.size)
  generalize hAe : va_A [] s.heap.size = A at hD ⊢
  have hA : ∀ q : Nat, s.heap.size ≤ q → A q := fun q h => by rw [← hAe]; exact Or.inr h
  have hS : va_S A s.heap s.heap [] := va_S.rf
  have hP : va_P (dC, dI) vwCl [] s.heap := hP
  have hl := lv_entry ([.long a, .int b]) (n := 4) (Nat.le_of_ble_eq_true rfl)
  rw [lg_entry_eq]
  generalize (lg_sl ([.long a, .int b]) ++ List.replicate (4 - (lg_sl ([.long a, .int b])).length) Slot.unset).toArray = ls at hl ⊢
  have hl : lv_has ls 4 [(0, .long a), (2, .int b)] := hl
  refine lv_iload_n hx hb dX9_longerKey_0 rfl (lv_at hl 1 rfl) ?_
  refine lv_bipush (v := 97) hx hb dX9_longerKey_1 (by decide) ?_
  refine lv_icmp_lt (tgt := 16) hx hb dX9_longerKey_3 (by decide) (fun hc1 => ?_) (fun hc1 => ?_)
  · refine lv_iload_n hx hb dX9_longerKey_16 rfl (lv_at hl 1 rfl) ?_
    refine lv_bipush (v := 65) hx hb dX9_longerKey_17 (by decide) ?_
    refine lv_icmp_lt (tgt := 32) hx hb dX9_longerKey_19 (by decide) (fun hc2 => ?_) (fun hc2 => ?_)
    · refine lv_iload_n hx hb dX9_longerKey_32 rfl (lv_at hl 1 rfl) ?_
      refine lv_bipush (v := 48) hx hb dX9_longerKey_33 (by decide) ?_
      refine lv_isub hx hb dX9_longerKey_35 ?_
      refine lv_topi (fun x3 ex3 => ?_)
      refine lv_iconst (v := 1) hx hb dX9_longerKey_36 (by decide) ?_
      refine lv_iadd hx hb dX9_longerKey_37 ?_
      refine lv_topi (fun x4 ex4 => ?_)
      refine lv_istore_n (lv' := [(3, .int x4), (0, .long a), (2, .int b)]) hx hb dX9_longerKey_38 rfl hl (by decide) rfl (fun ls5 hl5 => ?_)
      refine lv_lload_n hx hb dX9_longerKey_39 rfl (lv_at hl5 1 rfl) ?_
      refine lv_bipush (v := 6) hx hb dX9_longerKey_40 (by decide) ?_
      refine lv_lshl hx hb dX9_longerKey_42 rfl ?_
      refine lv_topl (fun x6 ex6 => ?_)
      refine lv_iload_n hx hb dX9_longerKey_43 rfl (lv_at hl5 0 rfl) ?_
      refine lv_i2l hx hb dX9_longerKey_44 rfl ?_
      refine lv_topl (fun x7 ex7 => ?_)
      refine lv_lor hx hb dX9_longerKey_45 ?_
      refine lv_topl (fun x8 ex8 => ?_)
      exact W.lret (v := x8) hx hb hr (fun t ht hW => ⟨⟨_, (), rfl, trivial, by rw [ht]; exact hP, va_K.moved hW.alike hK, hD⟩, hS.F ht⟩) hS.2.2 dX9_longerKey_46
    · refine lv_iload_n hx hb dX9_longerKey_22 rfl (lv_at hl 1 rfl) ?_
      refine lv_bipush (v := 65) hx hb dX9_longerKey_23 (by decide) ?_
      refine lv_isub hx hb dX9_longerKey_25 ?_
      refine lv_topi (fun x9 ex9 => ?_)
      refine lv_bipush (v := 11) hx hb dX9_longerKey_26 (by decide) ?_
      refine lv_iadd hx hb dX9_longerKey_28 ?_
      refine lv_topi (fun x10 ex10 => ?_)
      refine lv_goto (tgt := 38) hx hb dX9_longerKey_29 (by decide) ?_
      refine lv_istore_n (lv' := [(3, .int x10), (0, .long a), (2, .int b)]) hx hb dX9_longerKey_38 rfl hl (by decide) rfl (fun ls11 hl11 => ?_)
      refine lv_lload_n hx hb dX9_longerKey_39 rfl (lv_at hl11 1 rfl) ?_
      refine lv_bipush (v := 6) hx hb dX9_longerKey_40 (by decide) ?_
      refine lv_lshl hx hb dX9_longerKey_42 rfl ?_
      refine lv_topl (fun x12 ex12 => ?_)
      refine lv_iload_n hx hb dX9_longerKey_43 rfl (lv_at hl11 0 rfl) ?_
      refine lv_i2l hx hb dX9_longerKey_44 rfl ?_
      refine lv_topl (fun x13 ex13 => ?_)
      refine lv_lor hx hb dX9_longerKey_45 ?_
      refine lv_topl (fun x14 ex14 => ?_)
      exact W.lret (v := x14) hx hb hr (fun t ht hW => ⟨⟨_, (), rfl, trivial, by rw [ht]; exact hP, va_K.moved hW.alike hK, hD⟩, hS.F ht⟩) hS.2.2 dX9_longerKey_46
  · refine lv_iload_n hx hb dX9_longerKey_6 rfl (lv_at hl 1 rfl) ?_
    refine lv_bipush (v := 97) hx hb dX9_longerKey_7 (by decide) ?_
    refine lv_isub hx hb dX9_longerKey_9 ?_
    refine lv_topi (fun x15 ex15 => ?_)
    refine lv_bipush (v := 37) hx hb dX9_longerKey_10 (by decide) ?_
    refine lv_iadd hx hb dX9_longerKey_12 ?_
    refine lv_topi (fun x16 ex16 => ?_)
    refine lv_goto (tgt := 38) hx hb dX9_longerKey_13 (by decide) ?_
    refine lv_istore_n (lv' := [(3, .int x16), (0, .long a), (2, .int b)]) hx hb dX9_longerKey_38 rfl hl (by decide) rfl (fun ls17 hl17 => ?_)
    refine lv_lload_n hx hb dX9_longerKey_39 rfl (lv_at hl17 1 rfl) ?_
    refine lv_bipush (v := 6) hx hb dX9_longerKey_40 (by decide) ?_
    refine lv_lshl hx hb dX9_longerKey_42 rfl ?_
    refine lv_topl (fun x18 ex18 => ?_)
    refine lv_iload_n hx hb dX9_longerKey_43 rfl (lv_at hl17 0 rfl) ?_
    refine lv_i2l hx hb dX9_longerKey_44 rfl ?_
    refine lv_topl (fun x19 ex19 => ?_)
    refine lv_lor hx hb dX9_longerKey_45 ?_
    refine lv_topl (fun x20 ex20 => ?_)
    exact W.lret (v := x20) hx hb hr (fun t ht hW => ⟨⟨_, (), rfl, trivial, by rw [ht]; exact hP, va_K.moved hW.alike hK, hD⟩, hS.F ht⟩) hS.2.2 dX9_longerKey_46
set_option maxRecDepth 20000 in
def ww_keyOf : List Cond := .code yX9_keyOf cX9_keyOf 4 (some .long) :: ([] ++ (ww_length ++ ((wsV RX9 37 RJ0 yJ0_length_8abf5 ww_length) ++ (ww_charAt ++ ((wsV RX9 43 RJ0 yJ0_charAt_5068e ww_charAt) ++ (ww_longerKey ++ ((va_wsS RX9 47 yX9_longerKey ww_longerKey))))))))
set_option maxHeartbeats 40000000 in
set_option maxRecDepth 100000 in
/-- keyOf a text constant -/
theorem c_keyOf (l : Launch) (dC : Nat → ClassId) (dI : Nat → Nat → Nat) (z0 : Nat) (adK : Nat → Nat) (adV : Nat → Nat) (i : Nat) (hi : i < 4) (sz : Nat) : Met l yX9_keyOf ww_keyOf ({ frames := 5, cells := 0, slots := 0, locals := 500 }) (va_Pc [.ref (adK i)] (fun U => U.heap.size = sz ∧ va_P (dC, dI) vwCl [] U.heap ∧ va_K (dC, dI) vwCl [] U ∧ va_D (fun _ => True) [] ∧ ev z0 adK adV (va_A [] sz) U U.heap)) (va_Ql (fun (r : Int64) (_ : Unit) => True) (fun (_ : Unit) (t : State) => va_P (dC, dI) vwCl [] t.heap ∧ va_K (dC, dI) vwCl [] t ∧ va_D (va_A [] sz) []) (va_A [] sz)) 0 0 (va_A [] sz) := by
  refine Met.ofW (cc := cX9_keyOf) (maxL := 4) (ret := (some .long)) (by decide) rfl ?_
  intro p e s m args below meth c s₁ B hml hv
  obtain ⟨rfl, hsz, hP, hK, hD0, hE⟩ := hv
  have hx := B.exec
  have hb := B.bytes
  have hr := B.returns
  have hts := atoms_spec (ws := ww_keyOf) B.pre
  have hown : s.vm.findClass RX9 = some m.cls := findClass_of_methodNamed B.named
  have hlocks := B.notSynchronized
  subst hsz
  have hD := hD0.self (sz := s.heap.size)
  generalize hAe : va_A [] s.heap.size = A at hD hE ⊢
  have hA : ∀ q : Nat, s.heap.size ≤ q → A q := fun q h => by rw [← hAe]; exact Or.inr h
  have hS : va_S A s.heap s.heap [] := va_S.rf
  have hP : va_P (dC, dI) vwCl [] s.heap := hP
  have hl := lv_entry ([.ref (adK i)]) (n := 4) (Nat.le_of_ble_eq_true rfl)
  rw [lg_entry_eq]
  generalize (lg_sl ([.ref (adK i)]) ++ List.replicate (4 - (lg_sl ([.ref (adK i)])).length) Slot.unset).toArray = ls at hl ⊢
  have hl : lv_has ls 4 [(0, .ref (adK i))] := hl
  refine lv_lconst (v := 0) hx hb dX9_keyOf_0 (by decide) ?_
  refine lv_lstore_n (lv' := [(1, .long 0), (0, .ref (adK i))]) hx hb dX9_keyOf_1 rfl hl (by decide) rfl (fun ls1 hl1 => ?_)
  refine lv_iconst (v := 0) hx hb dX9_keyOf_2 (by decide) ?_
  refine lv_istore_n (lv' := [(3, .int 0), (1, .long 0), (0, .ref (adK i))]) hx hb dX9_keyOf_3 rfl hl1 (by decide) rfl (fun ls2 hl2 => ?_)
  have hL := jl_lt i hi
  refine (fun (hloop : ∀ (n : Nat) (j : Nat) (key : Int64) (H : Heap) (locs : List Loc) (ls : Array Slot), (j ≤ jlen.getD i 0) → (jlen.getD i 0 < j + n) → va_K (dC, dI) vwCl [] s → va_P (dC, dI) vwCl [] H → va_D A [] → va_S A s.heap H locs → lv_has ls 4 [(3, .int (nI j)), (1, .long key), (0, .ref (adK i))] → W p l e _ s m _ below meth c H locs _ _ _ (F0 m 4 ls [])) => hloop (jlen.getD i 0 + 1) (0) (0) s.heap _ ls2 (Nat.zero_le _) (by omega) hK hP hD hS (lv_sub hl2 [0, 1, 2] rfl)) ?_
  clear hP hD hS hl2 hK
  intro n
  induction n with
  | zero =>
    intro j key H locs ls hj hn
    exact absurd hn (by omega)
  | succ n ih =>
    intro j key H locs ls hj hn hK hP hD hS hl
    refine lv_iload_n hx hb dX9_keyOf_4 rfl (lv_at hl 0 rfl) ?_
    refine lv_aload_n hx hb dX9_keyOf_5 rfl (lv_at hl 2 rfl) ?_
    have hPc3 := hP.sub (ws' := []) [] rfl
    have hDc3 := hD.sub (ws' := []) [] (by decide) rfl
    have hKc3 := hK.sub (tys' := []) [] rfl
    have hFc3 := va_free (wc := []) hD hS hA [] rfl
    refine va_calli (va_runV (As := []) (rest := [.int (nI j)]) ⟨hx, hb, hml, hown, hts⟩ (c_length l dC dI (z0) (adK) (adV) (i) hi H.size) (cwV 0 hts (goodIn_sub (fun w h => List.mem_cons_of_mem _ (List.mem_append_right _ (List.mem_append_right _ (List.mem_append_left _ h)))) (by decide +kernel)) rfl rfl rfl (by decide +kernel) ⟨Nat.le_of_ble_eq_true rfl, Nat.le_of_ble_eq_true rfl⟩) ⟨fun a U g mk q => by obtain ⟨q0, q1, qP, qK, qD, qE0⟩ := q; exact ⟨q0, q1, qP, va_K.moved (u := U) (U := U.calling g mk a) (Vm.Alike.refl U.vm) qK, qD, ev_call rfl qE0⟩, vk_recv hE.2.2.2.2.2.1 (i := i) hi hS, fun U hU hW => ⟨rfl, by rw [hU], by rw [hU]; exact hPc3, va_K.moved hW.alike hKc3, hDc3.weaken (fun _ _ _ _ => trivial), by rw [hU]; exact ev_pass hW hE hS hFc3⟩⟩ rfl rfl hl.1 rfl (lv_room (Nat.le_of_ble_eq_true rfl)) dX9_keyOf_6 ⟨Nat.le_of_ble_eq_true rfl, Nat.le_of_ble_eq_true rfl⟩) hS (fun q _ h => hFc3 q h) hFc3 (fun r4 u4 t4 H4 lo4 ht4 hvm4 hw4 hB4 hz4 hk4 hS4 => ?_)
    obtain ⟨hP1_4, hK1_4, hD1_4⟩ := hB4
    rw [ht4] at hP1_4
    replace hK1_4 := va_K.moved hvm4.symm hK1_4
    obtain ⟨hP4, hD4⟩ := va_join (wr := []) (w1 := []) hP hD [] [] rfl rfl (by decide) (by decide) hk4 hFc3 hP1_4 hD1_4
    have hK4 := (hK.sub (tys' := []) [] rfl).app hK1_4
    replace hK4 : va_K (dC, dI) vwCl [] s := hK4
    replace hP4 : va_P (dC, dI) vwCl [] H4 := hP4
    replace hD4 : va_D A [] := hD4
    clear hP1_4 hD1_4 hK1_4 hk4 hFc3 hPc3 hDc3 hKc3 hz4 ht4 hvm4 hP hD hS hK H
    clear locs
    refine W.widen (k := 0) (n := 0) (Nat.le_of_ble_eq_true rfl) (Nat.le_of_ble_eq_true rfl) ?_
    obtain rfl : r4 = nI (jlen.getD i 0) := hw4
    refine lv_icmp_ge (tgt := 28) hx hb dX9_keyOf_9 (by decide) (fun hc5 => ?_) (fun hc5 => ?_)
    · refine lv_lload_n hx hb dX9_keyOf_28 rfl (lv_at hl 1 rfl) ?_
      exact W.lret (v := key) hx hb hr (fun t ht hW => ⟨⟨_, (), rfl, trivial, by rw [ht]; exact hP4, va_K.moved hW.alike hK4, hD4⟩, hS4.F ht⟩) hS4.2.2 dX9_keyOf_29
    · have hjl : j < jlen.getD i 0 := by
        rcases Nat.lt_or_ge j (jlen.getD i 0) with q | q
        · exact q
        · exact absurd (nI_le q (by omega)) hc5
      refine lv_lload_n hx hb dX9_keyOf_12 rfl (lv_at hl 1 rfl) ?_
      refine lv_aload_n hx hb dX9_keyOf_13 rfl (lv_at hl 2 rfl) ?_
      refine lv_iload_n hx hb dX9_keyOf_14 rfl (lv_at hl 0 rfl) ?_
      have hPc6 := hP4.sub (ws' := []) [] rfl
      have hDc6 := hD4.sub (ws' := []) [] (by decide) rfl
      have hKc6 := hK4.sub (tys' := []) [] rfl
      have hFc6 := va_free (wc := []) hD4 hS4 hA [] rfl
      refine va_calli (va_runV (As := [.int (nI j)]) (rest := [.long key]) ⟨hx, hb, hml, hown, hts⟩ (c_charAt l dC dI (z0) (adK) (adV) (i) ((nI j)) hi (nI_pos (by omega)) (nI_lt hjl hL) H4.size) (cwV 1 hts (goodIn_sub (fun w h => List.mem_cons_of_mem _ (List.mem_append_right _ (List.mem_append_right _ (List.mem_append_right _ (List.mem_append_right _ (List.mem_append_left _ h)))))) (by decide +kernel)) rfl rfl rfl (by decide +kernel) ⟨Nat.le_of_ble_eq_true rfl, Nat.le_of_ble_eq_true rfl⟩) ⟨fun a U g mk q => by obtain ⟨q0, q1, qP, qK, qD, qE0⟩ := q; exact ⟨q0, q1, qP, va_K.moved (u := U) (U := U.calling g mk a) (Vm.Alike.refl U.vm) qK, qD, ev_call rfl qE0⟩, vk_recv hE.2.2.2.2.2.1 (i := i) hi hS4, fun U hU hW => ⟨rfl, by rw [hU], by rw [hU]; exact hPc6, va_K.moved hW.alike hKc6, hDc6.weaken (fun _ _ _ _ => trivial), by rw [hU]; exact ev_pass hW hE hS4 hFc6⟩⟩ rfl rfl hl.1 rfl (lv_room (Nat.le_of_ble_eq_true rfl)) dX9_keyOf_15 ⟨Nat.le_of_ble_eq_true rfl, Nat.le_of_ble_eq_true rfl⟩) hS4 (fun q _ h => hFc6 q h) hFc6 (fun r7 u7 t7 H7 lo7 ht7 hvm7 hw7 hB7 hz7 hk7 hS7 => ?_)
      obtain ⟨hP1_7, hK1_7, hD1_7⟩ := hB7
      rw [ht7] at hP1_7
      replace hK1_7 := va_K.moved hvm7.symm hK1_7
      obtain ⟨hP7, hD7⟩ := va_join (wr := []) (w1 := []) hP4 hD4 [] [] rfl rfl (by decide) (by decide) hk7 hFc6 hP1_7 hD1_7
      have hK7 := (hK4.sub (tys' := []) [] rfl).app hK1_7
      replace hK7 : va_K (dC, dI) vwCl [] s := hK7
      replace hP7 : va_P (dC, dI) vwCl [] H7 := hP7
      replace hD7 : va_D A [] := hD7
      clear hP1_7 hD1_7 hK1_7 hk7 hFc6 hPc6 hDc6 hKc6 hz7 ht7 hvm7 hP4 hD4 hS4 hK4 H4
      clear lo4
      refine W.widen (k := 0) (n := 0) (Nat.le_of_ble_eq_true rfl) (Nat.le_of_ble_eq_true rfl) ?_
      have hPc8 := hP7.sub (ws' := []) [] rfl
      have hDc8 := hD7.sub (ws' := []) [] (by decide) rfl
      have hKc8 := hK7.sub (tys' := []) [] rfl
      have hFc8 := va_free (wc := []) hD7 hS7 hA [] rfl
      refine va_calll (va_runS (As := [.long key, .int r7]) (rest := []) ⟨hx, hb, hml, hown, hts⟩ (c_longerKey l dC dI (key) (r7) H7.size) (va_cwS 2 hts (goodIn_sub (fun w h => List.mem_cons_of_mem _ (List.mem_append_right _ (List.mem_append_right _ (List.mem_append_right _ (List.mem_append_right _ (List.mem_append_right _ (List.mem_append_right _ h))))))) (by decide +kernel)) rfl rfl rfl (by decide +kernel) ⟨Nat.le_of_ble_eq_true rfl, Nat.le_of_ble_eq_true rfl⟩) ⟨fun a U g mk q => by obtain ⟨q0, q1, qP, qK, qD⟩ := q; exact ⟨q0, q1, qP, va_K.moved (u := U) (U := U.calling g mk a) (Vm.Alike.refl U.vm) qK, qD⟩, fun U hU hW => ⟨rfl, by rw [hU], by rw [hU]; exact hPc8, va_K.moved hW.alike hKc8, hDc8.weaken (fun _ _ _ _ => trivial)⟩⟩ rfl rfl hl.1 rfl (lv_room (Nat.le_of_ble_eq_true rfl)) dX9_keyOf_18 ⟨Nat.le_of_ble_eq_true rfl, Nat.le_of_ble_eq_true rfl⟩) hS7 (fun q _ h => hFc8 q h) hFc8 (fun r9 u9 t9 H9 lo9 ht9 hvm9 hw9 hB9 hz9 hk9 hS9 => ?_)
      obtain ⟨hP1_9, hK1_9, hD1_9⟩ := hB9
      rw [ht9] at hP1_9
      replace hK1_9 := va_K.moved hvm9.symm hK1_9
      obtain ⟨hP9, hD9⟩ := va_join (wr := []) (w1 := []) hP7 hD7 [] [] rfl rfl (by decide) (by decide) hk9 hFc8 hP1_9 hD1_9
      have hK9 := (hK7.sub (tys' := []) [] rfl).app hK1_9
      replace hK9 : va_K (dC, dI) vwCl [] s := hK9
      replace hP9 : va_P (dC, dI) vwCl [] H9 := hP9
      replace hD9 : va_D A [] := hD9
      clear hP1_9 hD1_9 hK1_9 hk9 hFc8 hPc8 hDc8 hKc8 hz9 ht9 hvm9 hP7 hD7 hS7 hK7 H7
      clear lo7
      refine W.widen (k := 0) (n := 0) (Nat.le_of_ble_eq_true rfl) (Nat.le_of_ble_eq_true rfl) ?_
      refine lv_lstore_n (lv' := [(1, .long r9), (3, .int (nI j)), (0, .ref (adK i))]) hx hb dX9_keyOf_21 rfl hl (by decide) rfl (fun ls10 hl10 => ?_)
      refine lv_iinc (v := nI (j + 1)) (lv' := [(3, .int (nI (j + 1))), (1, .long r9), (0, .ref (adK i))]) hx hb dX9_keyOf_22 hl10 (k := 1) rfl (nI_1 j) (by decide) rfl (fun ls11 hl11 => ?_)
      refine lv_goto (tgt := 4) hx hb dX9_keyOf_25 (by decide) ?_
      exact ih (j + 1) r9 H9 _ ls11 (by omega) (by omega) hK9 hP9 hD9 hS9 (lv_sub hl11 [0, 1, 2] rfl)
