set_option maxRecDepth 20000 in
def ww_r_lay : List Cond := .code yX12_lay cX12_lay 3 none :: ([Cond.fieldLink RX12 7 "PlainJavaModel" "tape" "[I", Cond.fieldLink RX12 310 "PlainJavaModel" "taped" "I"] ++ (wsX120))
set_option maxHeartbeats 40000000 in
set_option maxRecDepth 100000 in
/-- lay: four bytes more -/
theorem r_lay (l : Launch) (dC : Nat → ClassId) (dI : Nat → Nat → Nat) (h : Nat) (ad : Nat → Nat) (cA : Nat → ClassId) (sz : Nat) (σ : RS) (k : Int32) (n : Nat) (hn : gI σ 1 = nI n) (hb1 : n + 4 ≤ 2500) : Met l yX12_lay ww_r_lay ({ frames := 1, cells := 0, slots := 0, locals := 100 }) (va_Pc [.ref h, .int k] (fun U => rPre (dC, dI) h ad cA σ sz U)) (va_Qv (fun τ : RS => ∃ (f : Nat → Int32), τ = sA (sI σ 1 (nI (n + 1 + 1 + 1 + 1))) 0 (f)) (fun (τ : RS) (t : State) => rPost (dC, dI) h ad cA σ sz τ t) (va_A (RW h ad cA σ) sz)) 0 0 (va_A (RW h ad cA σ) sz) := by
  refine Met.ofW (cc := cX12_lay) (maxL := 3) (ret := none) (by decide) rfl ?_
  intro p e s m args below meth c s₁ B hml hv
  obtain ⟨rfl, hsz, hP, hK, hD0⟩ := hv
  have hx := B.exec
  have hb := B.bytes
  have hr := B.returns
  have hts := atoms_spec (ws := ww_r_lay) B.pre
  have hown : s.vm.findClass RX12 = some m.cls := findClass_of_methodNamed B.named
  have hlocks := B.notSynchronized
  subst hsz
  have hD := hD0.self (sz := s.heap.size)
  generalize hAe : va_A (RW h ad cA σ) s.heap.size = A at hD ⊢
  have hA : ∀ q : Nat, s.heap.size ≤ q → A q := fun q h => by rw [← hAe]; exact Or.inr h
  have hS : va_S A s.heap s.heap [] := va_S.rf
  have hl := lv_entry ([.ref h, .int k]) (n := 3) (Nat.le_of_ble_eq_true rfl)
  rw [lg_entry_eq]
  generalize (lg_sl ([.ref h, .int k]) ++ List.replicate (3 - (lg_sl ([.ref h, .int k])).length) Slot.unset).toArray = ls at hl ⊢
  have hl : lv_has ls 3 [(0, .ref h), (1, .int k)] := hl
  refine lv_bipush (v := 24) hx hb dX12_lay_0 (by decide) ?_
  refine lv_istore_n (lv' := [(2, .int 24), (0, .ref h), (1, .int k)]) hx hb dX12_lay_2 rfl hl (by decide) rfl (fun ls1 hl1 => ?_)
  refine lv_iload_n hx hb dX12_lay_3 rfl (lv_at hl1 0 rfl) ?_
  refine lv_if_lt (tgt := 39) hx hb dX12_lay_4 (by decide) (fun hc => absurd hc (by decide)) (fun _ => ?_)
  refine lv_aload_n hx hb dX12_lay_7 rfl (lv_at hl1 1 rfl) ?_
  refine va_get (D := (dC, dI)) (ci := 13) (v := .ref (ad 0)) (C := RX12) (T := TX12) (N := 150) hx hb hts (fun w h => List.mem_cons_of_mem _ (List.mem_append_right _ h)) hown hK hP 0 rfl rfl 0 (by decide) (hts _ (List.mem_cons_of_mem _ (List.mem_append_left _ (List.mem_of_getElem? (i := 0) rfl)))) (fun _ h9 => h9) rfl dX12_lay_8 ?_
  refine lv_aload_n hx hb dX12_lay_11 rfl (lv_at hl1 1 rfl) ?_
  refine va_get (D := (dC, dI)) (ci := 13) (v := .int (nI n)) (C := RX12) (T := TX12) (N := 150) hx hb hts (fun w h => List.mem_cons_of_mem _ (List.mem_append_right _ h)) hown hK hP 0 rfl rfl 1 (by decide) (hts _ (List.mem_cons_of_mem _ (List.mem_append_left _ (List.mem_of_getElem? (i := 1) rfl)))) (fun _ h9 => h9) (congrArg (fun z => some (Value.int z)) hn) dX12_lay_12 ?_
  refine lv_iload_n hx hb dX12_lay_15 rfl (lv_at hl1 2 rfl) ?_
  refine lv_iload_n hx hb dX12_lay_16 rfl (lv_at hl1 0 rfl) ?_
  refine lv_ishr hx hb dX12_lay_17 ?_
  refine lv_topi (fun x3 ex3 => ?_)
  refine lv_sipush (v := 255) hx hb dX12_lay_18 (by decide) ?_
  refine lv_iand hx hb dX12_lay_21 ?_
  refine lv_topi (fun x4 ex4 => ?_)
  refine va_iast hx hb hK hP hD hS 1 0 rfl rfl (vp_in_nI (by omega) (by decide)) dX12_lay_22 (fun H5 lo5 hP5 hD5 hS5 => ?_)
  rw [RWa_0] at hP5 hD5
  clear hP hD hS
  refine lv_aload_n hx hb dX12_lay_23 rfl (lv_at hl1 1 rfl) ?_
  refine lv_dup hx hb dX12_lay_24 rfl ?_
  refine va_get (D := (dC, dI)) (ci := 13) (v := .int (nI n)) (C := RX12) (T := TX12) (N := 150) hx hb hts (fun w h => List.mem_cons_of_mem _ (List.mem_append_right _ h)) hown hK hP5 0 rfl rfl 1 (by decide) (hts _ (List.mem_cons_of_mem _ (List.mem_append_left _ (List.mem_of_getElem? (i := 1) rfl)))) (fun _ h9 => h9) (congrArg (fun z => some (Value.int z)) hn) dX12_lay_25 ?_
  refine lv_iconst (v := 1) hx hb dX12_lay_28 (by decide) ?_
  refine lv_iadd hx hb dX12_lay_29 ?_
  refine lv_topi (fun x6 ex6 => ?_)
  obtain rfl : x6 = nI (n + 1) := ex6.trans (nI_add n 1)
  refine va_put (D := (dC, dI)) (ci := 13) (v := .int (nI (n + 1))) (ty := tyX12 1) (C := RX12) (T := TX12) (N := 150) hx hb hts (fun w h => List.mem_cons_of_mem _ (List.mem_append_right _ h)) tyX12 tyX12_ok nmX12 hown hK hP5 hD5 hS5 0 rfl rfl 1 (by decide) (hts _ (List.mem_cons_of_mem _ (List.mem_append_left _ (List.mem_of_getElem? (i := 1) rfl)))) (fun _ h9 => h9) rfl (tyX12_ok 1 (by decide)) rfl rfl (Nat.le_of_ble_eq_true rfl) dX12_lay_30 (fun H7 lo7 hP7 hD7 hS7 => ?_)
  rw [RWf_1] at hP7 hD7
  clear hP5 hD5 hS5 H5 lo5
  rw [show ((sI (sA σ 0 (upd (aI σ 0) (((nI n)).toNatClampNeg) (x4))) 1 ((nI (n + 1)))) : RS) = (sA (sI σ 1 ((nI (n + 1)))) 0 (upd (aI σ 0) (((nI n)).toNatClampNeg) (x4))) from (by simp only [sI_sI, sI_cm, sL_sL, sL_cm, sA_sA, sA_cm, sM_sM, sM_cm, sI_sL, sI_sA, sI_sM, sL_sA, sL_sM, sA_sM])] at hP7 hD7
  refine lv_iinc (v := 16) (lv' := [(2, .int 16), (0, .ref h), (1, .int k)]) hx hb dX12_lay_33 hl1 (k := 0) rfl (by decide) (by decide) rfl (fun ls8 hl8 => ?_)
  refine lv_goto (tgt := 3) hx hb dX12_lay_36 (by decide) ?_
  refine lv_iload_n hx hb dX12_lay_3 rfl (lv_at hl8 0 rfl) ?_
  refine lv_if_lt (tgt := 39) hx hb dX12_lay_4 (by decide) (fun hc => absurd hc (by decide)) (fun _ => ?_)
  refine lv_aload_n hx hb dX12_lay_7 rfl (lv_at hl8 1 rfl) ?_
  refine va_get (D := (dC, dI)) (ci := 13) (v := .ref (ad 0)) (C := RX12) (T := TX12) (N := 150) hx hb hts (fun w h => List.mem_cons_of_mem _ (List.mem_append_right _ h)) hown hK hP7 0 rfl rfl 0 (by decide) (hts _ (List.mem_cons_of_mem _ (List.mem_append_left _ (List.mem_of_getElem? (i := 0) rfl)))) (fun _ h9 => h9) rfl dX12_lay_8 ?_
  refine lv_aload_n hx hb dX12_lay_11 rfl (lv_at hl8 1 rfl) ?_
  refine va_get (D := (dC, dI)) (ci := 13) (v := .int (nI (n + 1))) (C := RX12) (T := TX12) (N := 150) hx hb hts (fun w h => List.mem_cons_of_mem _ (List.mem_append_right _ h)) hown hK hP7 0 rfl rfl 1 (by decide) (hts _ (List.mem_cons_of_mem _ (List.mem_append_left _ (List.mem_of_getElem? (i := 1) rfl)))) (fun _ h9 => h9) rfl dX12_lay_12 ?_
  refine lv_iload_n hx hb dX12_lay_15 rfl (lv_at hl8 2 rfl) ?_
  refine lv_iload_n hx hb dX12_lay_16 rfl (lv_at hl8 0 rfl) ?_
  refine lv_ishr hx hb dX12_lay_17 ?_
  refine lv_topi (fun x10 ex10 => ?_)
  refine lv_sipush (v := 255) hx hb dX12_lay_18 (by decide) ?_
  refine lv_iand hx hb dX12_lay_21 ?_
  refine lv_topi (fun x11 ex11 => ?_)
  refine va_iast hx hb hK hP7 hD7 hS7 1 0 rfl rfl (vp_in_nI (by omega) (by decide)) dX12_lay_22 (fun H12 lo12 hP12 hD12 hS12 => ?_)
  rw [RWa_0] at hP12 hD12
  clear hP7 hD7 hS7 H7 lo7
  rw [show ((sA (sA (sI σ 1 ((nI (n + 1)))) 0 (upd (aI σ 0) (((nI n)).toNatClampNeg) (x4))) 0 (upd (upd (aI σ 0) (((nI n)).toNatClampNeg) (x4)) (((nI (n + 1))).toNatClampNeg) (x11))) : RS) = (sA (sI σ 1 ((nI (n + 1)))) 0 (upd (upd (aI σ 0) (((nI n)).toNatClampNeg) (x4)) (((nI (n + 1))).toNatClampNeg) (x11))) from (by simp only [sI_sI, sI_cm, sL_sL, sL_cm, sA_sA, sA_cm, sM_sM, sM_cm, sI_sL, sI_sA, sI_sM, sL_sA, sL_sM, sA_sM])] at hP12 hD12
  refine lv_aload_n hx hb dX12_lay_23 rfl (lv_at hl8 1 rfl) ?_
  refine lv_dup hx hb dX12_lay_24 rfl ?_
  refine va_get (D := (dC, dI)) (ci := 13) (v := .int (nI (n + 1))) (C := RX12) (T := TX12) (N := 150) hx hb hts (fun w h => List.mem_cons_of_mem _ (List.mem_append_right _ h)) hown hK hP12 0 rfl rfl 1 (by decide) (hts _ (List.mem_cons_of_mem _ (List.mem_append_left _ (List.mem_of_getElem? (i := 1) rfl)))) (fun _ h9 => h9) rfl dX12_lay_25 ?_
  refine lv_iconst (v := 1) hx hb dX12_lay_28 (by decide) ?_
  refine lv_iadd hx hb dX12_lay_29 ?_
  refine lv_topi (fun x13 ex13 => ?_)
  obtain rfl : x13 = nI ((n + 1) + 1) := ex13.trans (nI_add ((n + 1)) 1)
  refine va_put (D := (dC, dI)) (ci := 13) (v := .int (nI ((n + 1) + 1))) (ty := tyX12 1) (C := RX12) (T := TX12) (N := 150) hx hb hts (fun w h => List.mem_cons_of_mem _ (List.mem_append_right _ h)) tyX12 tyX12_ok nmX12 hown hK hP12 hD12 hS12 0 rfl rfl 1 (by decide) (hts _ (List.mem_cons_of_mem _ (List.mem_append_left _ (List.mem_of_getElem? (i := 1) rfl)))) (fun _ h9 => h9) rfl (tyX12_ok 1 (by decide)) rfl rfl (Nat.le_of_ble_eq_true rfl) dX12_lay_30 (fun H14 lo14 hP14 hD14 hS14 => ?_)
  rw [RWf_1] at hP14 hD14
  clear hP12 hD12 hS12 H12 lo12
  rw [show ((sI (sA (sI σ 1 ((nI (n + 1)))) 0 (upd (upd (aI σ 0) (((nI n)).toNatClampNeg) (x4)) (((nI (n + 1))).toNatClampNeg) (x11))) 1 ((nI ((n + 1) + 1)))) : RS) = (sA (sI σ 1 ((nI ((n + 1) + 1)))) 0 (upd (upd (aI σ 0) (((nI n)).toNatClampNeg) (x4)) (((nI (n + 1))).toNatClampNeg) (x11))) from (by simp only [sI_sI, sI_cm, sL_sL, sL_cm, sA_sA, sA_cm, sM_sM, sM_cm, sI_sL, sI_sA, sI_sM, sL_sA, sL_sM, sA_sM])] at hP14 hD14
  refine lv_iinc (v := 8) (lv' := [(2, .int 8), (0, .ref h), (1, .int k)]) hx hb dX12_lay_33 hl8 (k := 0) rfl (by decide) (by decide) rfl (fun ls15 hl15 => ?_)
  refine lv_goto (tgt := 3) hx hb dX12_lay_36 (by decide) ?_
  refine lv_iload_n hx hb dX12_lay_3 rfl (lv_at hl15 0 rfl) ?_
  refine lv_if_lt (tgt := 39) hx hb dX12_lay_4 (by decide) (fun hc => absurd hc (by decide)) (fun _ => ?_)
  refine lv_aload_n hx hb dX12_lay_7 rfl (lv_at hl15 1 rfl) ?_
  refine va_get (D := (dC, dI)) (ci := 13) (v := .ref (ad 0)) (C := RX12) (T := TX12) (N := 150) hx hb hts (fun w h => List.mem_cons_of_mem _ (List.mem_append_right _ h)) hown hK hP14 0 rfl rfl 0 (by decide) (hts _ (List.mem_cons_of_mem _ (List.mem_append_left _ (List.mem_of_getElem? (i := 0) rfl)))) (fun _ h9 => h9) rfl dX12_lay_8 ?_
  refine lv_aload_n hx hb dX12_lay_11 rfl (lv_at hl15 1 rfl) ?_
  refine va_get (D := (dC, dI)) (ci := 13) (v := .int (nI ((n + 1) + 1))) (C := RX12) (T := TX12) (N := 150) hx hb hts (fun w h => List.mem_cons_of_mem _ (List.mem_append_right _ h)) hown hK hP14 0 rfl rfl 1 (by decide) (hts _ (List.mem_cons_of_mem _ (List.mem_append_left _ (List.mem_of_getElem? (i := 1) rfl)))) (fun _ h9 => h9) rfl dX12_lay_12 ?_
  refine lv_iload_n hx hb dX12_lay_15 rfl (lv_at hl15 2 rfl) ?_
  refine lv_iload_n hx hb dX12_lay_16 rfl (lv_at hl15 0 rfl) ?_
  refine lv_ishr hx hb dX12_lay_17 ?_
  refine lv_topi (fun x17 ex17 => ?_)
  refine lv_sipush (v := 255) hx hb dX12_lay_18 (by decide) ?_
  refine lv_iand hx hb dX12_lay_21 ?_
  refine lv_topi (fun x18 ex18 => ?_)
  refine va_iast hx hb hK hP14 hD14 hS14 1 0 rfl rfl (vp_in_nI (by omega) (by decide)) dX12_lay_22 (fun H19 lo19 hP19 hD19 hS19 => ?_)
  rw [RWa_0] at hP19 hD19
  clear hP14 hD14 hS14 H14 lo14
  rw [show ((sA (sA (sI σ 1 ((nI ((n + 1) + 1)))) 0 (upd (upd (aI σ 0) (((nI n)).toNatClampNeg) (x4)) (((nI (n + 1))).toNatClampNeg) (x11))) 0 (upd (upd (upd (aI σ 0) (((nI n)).toNatClampNeg) (x4)) (((nI (n + 1))).toNatClampNeg) (x11)) (((nI ((n + 1) + 1))).toNatClampNeg) (x18))) : RS) = (sA (sI σ 1 ((nI ((n + 1) + 1)))) 0 (upd (upd (upd (aI σ 0) (((nI n)).toNatClampNeg) (x4)) (((nI (n + 1))).toNatClampNeg) (x11)) (((nI ((n + 1) + 1))).toNatClampNeg) (x18))) from (by simp only [sI_sI, sI_cm, sL_sL, sL_cm, sA_sA, sA_cm, sM_sM, sM_cm, sI_sL, sI_sA, sI_sM, sL_sA, sL_sM, sA_sM])] at hP19 hD19
  refine lv_aload_n hx hb dX12_lay_23 rfl (lv_at hl15 1 rfl) ?_
  refine lv_dup hx hb dX12_lay_24 rfl ?_
  refine va_get (D := (dC, dI)) (ci := 13) (v := .int (nI ((n + 1) + 1))) (C := RX12) (T := TX12) (N := 150) hx hb hts (fun w h => List.mem_cons_of_mem _ (List.mem_append_right _ h)) hown hK hP19 0 rfl rfl 1 (by decide) (hts _ (List.mem_cons_of_mem _ (List.mem_append_left _ (List.mem_of_getElem? (i := 1) rfl)))) (fun _ h9 => h9) rfl dX12_lay_25 ?_
  refine lv_iconst (v := 1) hx hb dX12_lay_28 (by decide) ?_
  refine lv_iadd hx hb dX12_lay_29 ?_
  refine lv_topi (fun x20 ex20 => ?_)
  obtain rfl : x20 = nI (((n + 1) + 1) + 1) := ex20.trans (nI_add (((n + 1) + 1)) 1)
  refine va_put (D := (dC, dI)) (ci := 13) (v := .int (nI (((n + 1) + 1) + 1))) (ty := tyX12 1) (C := RX12) (T := TX12) (N := 150) hx hb hts (fun w h => List.mem_cons_of_mem _ (List.mem_append_right _ h)) tyX12 tyX12_ok nmX12 hown hK hP19 hD19 hS19 0 rfl rfl 1 (by decide) (hts _ (List.mem_cons_of_mem _ (List.mem_append_left _ (List.mem_of_getElem? (i := 1) rfl)))) (fun _ h9 => h9) rfl (tyX12_ok 1 (by decide)) rfl rfl (Nat.le_of_ble_eq_true rfl) dX12_lay_30 (fun H21 lo21 hP21 hD21 hS21 => ?_)
  rw [RWf_1] at hP21 hD21
  clear hP19 hD19 hS19 H19 lo19
  rw [show ((sI (sA (sI σ 1 ((nI ((n + 1) + 1)))) 0 (upd (upd (upd (aI σ 0) (((nI n)).toNatClampNeg) (x4)) (((nI (n + 1))).toNatClampNeg) (x11)) (((nI ((n + 1) + 1))).toNatClampNeg) (x18))) 1 ((nI (((n + 1) + 1) + 1)))) : RS) = (sA (sI σ 1 ((nI (((n + 1) + 1) + 1)))) 0 (upd (upd (upd (aI σ 0) (((nI n)).toNatClampNeg) (x4)) (((nI (n + 1))).toNatClampNeg) (x11)) (((nI ((n + 1) + 1))).toNatClampNeg) (x18))) from (by simp only [sI_sI, sI_cm, sL_sL, sL_cm, sA_sA, sA_cm, sM_sM, sM_cm, sI_sL, sI_sA, sI_sM, sL_sA, sL_sM, sA_sM])] at hP21 hD21
  refine lv_iinc (v := 0) (lv' := [(2, .int 0), (0, .ref h), (1, .int k)]) hx hb dX12_lay_33 hl15 (k := 0) rfl (by decide) (by decide) rfl (fun ls22 hl22 => ?_)
  refine lv_goto (tgt := 3) hx hb dX12_lay_36 (by decide) ?_
  refine lv_iload_n hx hb dX12_lay_3 rfl (lv_at hl22 0 rfl) ?_
  refine lv_if_lt (tgt := 39) hx hb dX12_lay_4 (by decide) (fun hc => absurd hc (by decide)) (fun _ => ?_)
  refine lv_aload_n hx hb dX12_lay_7 rfl (lv_at hl22 1 rfl) ?_
  refine va_get (D := (dC, dI)) (ci := 13) (v := .ref (ad 0)) (C := RX12) (T := TX12) (N := 150) hx hb hts (fun w h => List.mem_cons_of_mem _ (List.mem_append_right _ h)) hown hK hP21 0 rfl rfl 0 (by decide) (hts _ (List.mem_cons_of_mem _ (List.mem_append_left _ (List.mem_of_getElem? (i := 0) rfl)))) (fun _ h9 => h9) rfl dX12_lay_8 ?_
  refine lv_aload_n hx hb dX12_lay_11 rfl (lv_at hl22 1 rfl) ?_
  refine va_get (D := (dC, dI)) (ci := 13) (v := .int (nI (((n + 1) + 1) + 1))) (C := RX12) (T := TX12) (N := 150) hx hb hts (fun w h => List.mem_cons_of_mem _ (List.mem_append_right _ h)) hown hK hP21 0 rfl rfl 1 (by decide) (hts _ (List.mem_cons_of_mem _ (List.mem_append_left _ (List.mem_of_getElem? (i := 1) rfl)))) (fun _ h9 => h9) rfl dX12_lay_12 ?_
  refine lv_iload_n hx hb dX12_lay_15 rfl (lv_at hl22 2 rfl) ?_
  refine lv_iload_n hx hb dX12_lay_16 rfl (lv_at hl22 0 rfl) ?_
  refine lv_ishr hx hb dX12_lay_17 ?_
  refine lv_topi (fun x24 ex24 => ?_)
  refine lv_sipush (v := 255) hx hb dX12_lay_18 (by decide) ?_
  refine lv_iand hx hb dX12_lay_21 ?_
  refine lv_topi (fun x25 ex25 => ?_)
  refine va_iast hx hb hK hP21 hD21 hS21 1 0 rfl rfl (vp_in_nI (by omega) (by decide)) dX12_lay_22 (fun H26 lo26 hP26 hD26 hS26 => ?_)
  rw [RWa_0] at hP26 hD26
  clear hP21 hD21 hS21 H21 lo21
  rw [show ((sA (sA (sI σ 1 ((nI (((n + 1) + 1) + 1)))) 0 (upd (upd (upd (aI σ 0) (((nI n)).toNatClampNeg) (x4)) (((nI (n + 1))).toNatClampNeg) (x11)) (((nI ((n + 1) + 1))).toNatClampNeg) (x18))) 0 (upd (upd (upd (upd (aI σ 0) (((nI n)).toNatClampNeg) (x4)) (((nI (n + 1))).toNatClampNeg) (x11)) (((nI ((n + 1) + 1))).toNatClampNeg) (x18)) (((nI (((n + 1) + 1) + 1))).toNatClampNeg) (x25))) : RS) = (sA (sI σ 1 ((nI (((n + 1) + 1) + 1)))) 0 (upd (upd (upd (upd (aI σ 0) (((nI n)).toNatClampNeg) (x4)) (((nI (n + 1))).toNatClampNeg) (x11)) (((nI ((n + 1) + 1))).toNatClampNeg) (x18)) (((nI (((n + 1) + 1) + 1))).toNatClampNeg) (x25))) from (by simp only [sI_sI, sI_cm, sL_sL, sL_cm, sA_sA, sA_cm, sM_sM, sM_cm, sI_sL, sI_sA, sI_sM, sL_sA, sL_sM, sA_sM])] at hP26 hD26
  refine lv_aload_n hx hb dX12_lay_23 rfl (lv_at hl22 1 rfl) ?_
  refine lv_dup hx hb dX12_lay_24 rfl ?_
  refine va_get (D := (dC, dI)) (ci := 13) (v := .int (nI (((n + 1) + 1) + 1))) (C := RX12) (T := TX12) (N := 150) hx hb hts (fun w h => List.mem_cons_of_mem _ (List.mem_append_right _ h)) hown hK hP26 0 rfl rfl 1 (by decide) (hts _ (List.mem_cons_of_mem _ (List.mem_append_left _ (List.mem_of_getElem? (i := 1) rfl)))) (fun _ h9 => h9) rfl dX12_lay_25 ?_
  refine lv_iconst (v := 1) hx hb dX12_lay_28 (by decide) ?_
  refine lv_iadd hx hb dX12_lay_29 ?_
  refine lv_topi (fun x27 ex27 => ?_)
  obtain rfl : x27 = nI ((((n + 1) + 1) + 1) + 1) := ex27.trans (nI_add ((((n + 1) + 1) + 1)) 1)
  refine va_put (D := (dC, dI)) (ci := 13) (v := .int (nI ((((n + 1) + 1) + 1) + 1))) (ty := tyX12 1) (C := RX12) (T := TX12) (N := 150) hx hb hts (fun w h => List.mem_cons_of_mem _ (List.mem_append_right _ h)) tyX12 tyX12_ok nmX12 hown hK hP26 hD26 hS26 0 rfl rfl 1 (by decide) (hts _ (List.mem_cons_of_mem _ (List.mem_append_left _ (List.mem_of_getElem? (i := 1) rfl)))) (fun _ h9 => h9) rfl (tyX12_ok 1 (by decide)) rfl rfl (Nat.le_of_ble_eq_true rfl) dX12_lay_30 (fun H28 lo28 hP28 hD28 hS28 => ?_)
  rw [RWf_1] at hP28 hD28
  clear hP26 hD26 hS26 H26 lo26
  rw [show ((sI (sA (sI σ 1 ((nI (((n + 1) + 1) + 1)))) 0 (upd (upd (upd (upd (aI σ 0) (((nI n)).toNatClampNeg) (x4)) (((nI (n + 1))).toNatClampNeg) (x11)) (((nI ((n + 1) + 1))).toNatClampNeg) (x18)) (((nI (((n + 1) + 1) + 1))).toNatClampNeg) (x25))) 1 ((nI ((((n + 1) + 1) + 1) + 1)))) : RS) = (sA (sI σ 1 ((nI ((((n + 1) + 1) + 1) + 1)))) 0 (upd (upd (upd (upd (aI σ 0) (((nI n)).toNatClampNeg) (x4)) (((nI (n + 1))).toNatClampNeg) (x11)) (((nI ((n + 1) + 1))).toNatClampNeg) (x18)) (((nI (((n + 1) + 1) + 1))).toNatClampNeg) (x25))) from (by simp only [sI_sI, sI_cm, sL_sL, sL_cm, sA_sA, sA_cm, sM_sM, sM_cm, sI_sL, sI_sA, sI_sM, sL_sA, sL_sM, sA_sM])] at hP28 hD28
  refine lv_iinc (v := (-8)) (lv' := [(2, .int (-8)), (0, .ref h), (1, .int k)]) hx hb dX12_lay_33 hl22 (k := 0) rfl (by decide) (by decide) rfl (fun ls29 hl29 => ?_)
  refine lv_goto (tgt := 3) hx hb dX12_lay_36 (by decide) ?_
  refine lv_iload_n hx hb dX12_lay_3 rfl (lv_at hl29 0 rfl) ?_
  refine lv_if_lt (tgt := 39) hx hb dX12_lay_4 (by decide) (fun _ => ?_) (fun hc => absurd (by decide) hc)
  exact W.vret hx hb hr (fun t ht hW => ⟨⟨(sA (sI σ 1 ((nI ((((n + 1) + 1) + 1) + 1)))) 0 (upd (upd (upd (upd (aI σ 0) (((nI n)).toNatClampNeg) (x4)) (((nI (n + 1))).toNatClampNeg) (x11)) (((nI ((n + 1) + 1))).toNatClampNeg) (x18)) (((nI (((n + 1) + 1) + 1))).toNatClampNeg) (x25))), rfl, ⟨upd (upd (upd (upd (aI σ 0) (((nI n)).toNatClampNeg) (x4)) (((nI (n + 1))).toNatClampNeg) (x11)) (((nI ((n + 1) + 1))).toNatClampNeg) (x18)) (((nI (((n + 1) + 1) + 1))).toNatClampNeg) (x25), rfl⟩, by rw [ht]; exact hP28, va_K.moved hW.alike hK, by rw [hAe]; exact hD28⟩, hS28.F ht⟩) hS28.2.2 dX12_lay_39
set_option maxRecDepth 20000 in
def ww_r_feed : List Cond := .code yX12_feed cX12_feed 6 (some .int) :: ([Cond.fieldLink RX12 310 "PlainJavaModel" "taped" "I"] ++ (wsX120 ++ ((wsV RX12 313 RX12 yX12_lay ww_r_lay))))
set_option maxHeartbeats 40000000 in
set_option maxRecDepth 100000 in
/-- feed -/
theorem r_feed (l : Launch) (dC : Nat → ClassId) (dI : Nat → Nat → Nat) (h : Nat) (ad : Nat → Nat) (cA : Nat → ClassId) (sz : Nat) (σ : RS) (k1 : Int32) (k2 : Int32) (k3 : Int32) (k4 : Int32) (k5 : Int32) (n : Nat) (hn : gI σ 1 = nI n) (hb1 : n ≤ 2500) : Met l yX12_feed ww_r_feed ({ frames := 2, cells := 0, slots := 0, locals := 200 }) (va_Pc [.ref h, .int k1, .int k2, .int k3, .int k4, .int k5] (fun U => rPre (dC, dI) h ad cA σ sz U)) (va_Qi (fun (r : Int32) (τ : RS) => ∃ (f : Nat → Int32) (x : Int32) (j : Nat), τ = sA (sI σ 1 (x)) 0 (f) ∧ x = nI j ∧ (n + 20 ≤ 2500 ∧ j = n + 20 ∧ r = x ∨ 2500 < n + 20 ∧ j = n ∧ r = -3)) (fun (τ : RS) (t : State) => rPost (dC, dI) h ad cA σ sz τ t) (va_A (RW h ad cA σ) sz)) 0 0 (va_A (RW h ad cA σ) sz) := by
  refine Met.ofW (cc := cX12_feed) (maxL := 6) (ret := (some .int)) (by decide) rfl ?_
  intro p e s m args below meth c s₁ B hml hv
  obtain ⟨rfl, hsz, hP, hK, hD0⟩ := hv
  have hx := B.exec
  have hb := B.bytes
  have hr := B.returns
  have hts := atoms_spec (ws := ww_r_feed) B.pre
  have hown : s.vm.findClass RX12 = some m.cls := findClass_of_methodNamed B.named
  have hlocks := B.notSynchronized
  subst hsz
  have hD := hD0.self (sz := s.heap.size)
  generalize hAe : va_A (RW h ad cA σ) s.heap.size = A at hD ⊢
  have hA : ∀ q : Nat, s.heap.size ≤ q → A q := fun q h => by rw [← hAe]; exact Or.inr h
  have hS : va_S A s.heap s.heap [] := va_S.rf
  have hl := lv_entry ([.ref h, .int k1, .int k2, .int k3, .int k4, .int k5]) (n := 6) (Nat.le_of_ble_eq_true rfl)
  rw [lg_entry_eq]
  generalize (lg_sl ([.ref h, .int k1, .int k2, .int k3, .int k4, .int k5]) ++ List.replicate (6 - (lg_sl ([.ref h, .int k1, .int k2, .int k3, .int k4, .int k5])).length) Slot.unset).toArray = ls at hl ⊢
  have hl : lv_has ls 6 [(0, .ref h), (1, .int k1), (2, .int k2), (3, .int k3), (4, .int k4), (5, .int k5)] := hl
  refine lv_aload_n hx hb dX12_feed_0 rfl (lv_at hl 0 rfl) ?_
  refine va_get (D := (dC, dI)) (ci := 13) (v := .int (nI n)) (C := RX12) (T := TX12) (N := 150) hx hb hts (fun w h => List.mem_cons_of_mem _ (List.mem_append_right _ (List.mem_append_left _ h))) hown hK hP 0 rfl rfl 1 (by decide) (hts _ (List.mem_cons_of_mem _ (List.mem_append_left _ (List.mem_of_getElem? (i := 0) rfl)))) (fun _ h9 => h9) (congrArg (fun z => some (Value.int z)) hn) dX12_feed_1 ?_
  refine lv_bipush (v := 20) hx hb dX12_feed_4 (by decide) ?_
  refine lv_iadd hx hb dX12_feed_6 ?_
  refine lv_topi (fun x1 ex1 => ?_)
  obtain rfl : x1 = nI (n + 20) := ex1.trans (nI_add n 20)
  refine lv_sipush (v := 2500) hx hb dX12_feed_7 (by decide) ?_
  refine lv_icmp_le (tgt := 16) hx hb dX12_feed_10 (by decide) (fun hc2 => ?_) (fun hc2 => ?_)
  · have tc2 := Int32.le_iff_toInt_le.mp hc2
    rw [(nI_toInt (n := (n + 20)) (by omega)), (show (2500 : Int32).toInt = 2500 from by decide)] at tc2
    refine lv_aload_n hx hb dX12_feed_16 rfl (lv_at hl 0 rfl) ?_
    refine lv_iload_n hx hb dX12_feed_17 rfl (lv_at hl 1 rfl) ?_
    have hFc3 := va_freeAll hD hS hA
    refine va_callv (va_runV (As := [.int k1]) (rest := []) ⟨hx, hb, hml, hown, hts⟩ (r_lay l dC dI h ad cA s.heap.size σ (k1) (n) (show gI σ 1 = nI n by first | omega | rfl | assumption) (show n + 4 ≤ 2500 by first | omega | rfl | assumption)) (cwV 1 hts (goodIn_sub (fun w h => List.mem_cons_of_mem _ (List.mem_append_right _ (List.mem_append_right _ h))) (by decide +kernel)) rfl rfl rfl (by decide +kernel) ⟨Nat.le_of_ble_eq_true rfl, Nat.le_of_ble_eq_true rfl⟩) ⟨fun a U g mk q => by obtain ⟨q0, q1, qP, qK, qD⟩ := q; exact ⟨q0, q1, qP, va_K.moved (u := U) (U := U.calling g mk a) (Vm.Alike.refl U.vm) qK, qD⟩, va_recv hK hP (ci := 13) (q0 := 0) rfl rfl, fun U hU hW => ⟨rfl, by rw [hU], by rw [hU]; exact hP, va_K.moved hW.alike hK, hD.weaken (fun _ _ _ _ => trivial)⟩⟩ rfl rfl hl.1 rfl (lv_room (Nat.le_of_ble_eq_true rfl)) dX12_feed_18 ⟨Nat.le_of_ble_eq_true rfl, Nat.le_of_ble_eq_true rfl⟩) hS (fun q _ h => hFc3 q h) hFc3 (fun τ4 t4 H4 lo4 ht4 hvm4 hw4 hB4 hz4 hk4 hS4 => ?_)
    obtain ⟨hP4, -, hD4⟩ := hB4
    rw [ht4] at hP4
    replace hD4 := hD4.weaken (fun _ q _ h => hFc3 q.1 h)
    clear hk4 hFc3 hz4 ht4 hvm4 hP hD hS
    obtain ⟨f_4, rfl⟩ := hw4
    refine lv_aload_n hx hb dX12_feed_21 rfl (lv_at hl 0 rfl) ?_
    refine lv_iload_n hx hb dX12_feed_22 rfl (lv_at hl 2 rfl) ?_
    have hFc5 := va_freeAll hD4 hS4 hA
    refine va_callv (va_runV (As := [.int k2]) (rest := []) ⟨hx, hb, hml, hown, hts⟩ (r_lay l dC dI h ad cA H4.size (sA (sI σ 1 (nI (n + 1 + 1 + 1 + 1))) 0 (f_4)) (k2) ((n + 1 + 1 + 1 + 1)) (show gI σ 1 = nI (n + 1 + 1 + 1 + 1) by first | omega | rfl | assumption) (show (n + 1 + 1 + 1 + 1) + 4 ≤ 2500 by first | omega | rfl | assumption)) (cwV 1 hts (goodIn_sub (fun w h => List.mem_cons_of_mem _ (List.mem_append_right _ (List.mem_append_right _ h))) (by decide +kernel)) rfl rfl rfl (by decide +kernel) ⟨Nat.le_of_ble_eq_true rfl, Nat.le_of_ble_eq_true rfl⟩) ⟨fun a U g mk q => by obtain ⟨q0, q1, qP, qK, qD⟩ := q; exact ⟨q0, q1, qP, va_K.moved (u := U) (U := U.calling g mk a) (Vm.Alike.refl U.vm) qK, qD⟩, va_recv hK hP4 (ci := 13) (q0 := 0) rfl rfl, fun U hU hW => ⟨rfl, by rw [hU], by rw [hU]; exact hP4, va_K.moved hW.alike hK, hD4.weaken (fun _ _ _ _ => trivial)⟩⟩ rfl rfl hl.1 rfl (lv_room (Nat.le_of_ble_eq_true rfl)) dX12_feed_23 ⟨Nat.le_of_ble_eq_true rfl, Nat.le_of_ble_eq_true rfl⟩) hS4 (fun q _ h => hFc5 q h) hFc5 (fun τ6 t6 H6 lo6 ht6 hvm6 hw6 hB6 hz6 hk6 hS6 => ?_)
    obtain ⟨hP6, -, hD6⟩ := hB6
    rw [ht6] at hP6
    replace hD6 := hD6.weaken (fun _ q _ h => hFc5 q.1 h)
    clear hk6 hFc5 hz6 ht6 hvm6 hP4 hD4 hS4 H4
    clear lo4
    obtain ⟨f_6, rfl⟩ := hw6
    rw [show (sA (sI ((sA (sI σ 1 (nI (n + 1 + 1 + 1 + 1))) 0 (f_4))) 1 (nI ((n + 1 + 1 + 1 + 1) + 1 + 1 + 1 + 1))) 0 (f_6) : RS) = (sA (sI σ 1 (nI ((n + 1 + 1 + 1 + 1) + 1 + 1 + 1 + 1))) 0 (f_6)) from (by simp only [sI_sI, sI_cm, sL_sL, sL_cm, sA_sA, sA_cm, sM_sM, sM_cm, sI_sL, sI_sA, sI_sM, sL_sA, sL_sM, sA_sM])] at hP6 hD6
    refine lv_aload_n hx hb dX12_feed_26 rfl (lv_at hl 0 rfl) ?_
    refine lv_iload_n hx hb dX12_feed_27 rfl (lv_at hl 3 rfl) ?_
    have hFc7 := va_freeAll hD6 hS6 hA
    refine va_callv (va_runV (As := [.int k3]) (rest := []) ⟨hx, hb, hml, hown, hts⟩ (r_lay l dC dI h ad cA H6.size (sA (sI σ 1 (nI ((n + 1 + 1 + 1 + 1) + 1 + 1 + 1 + 1))) 0 (f_6)) (k3) (((n + 1 + 1 + 1 + 1) + 1 + 1 + 1 + 1)) (show gI σ 1 = nI ((n + 1 + 1 + 1 + 1) + 1 + 1 + 1 + 1) by first | omega | rfl | assumption) (show ((n + 1 + 1 + 1 + 1) + 1 + 1 + 1 + 1) + 4 ≤ 2500 by first | omega | rfl | assumption)) (cwV 1 hts (goodIn_sub (fun w h => List.mem_cons_of_mem _ (List.mem_append_right _ (List.mem_append_right _ h))) (by decide +kernel)) rfl rfl rfl (by decide +kernel) ⟨Nat.le_of_ble_eq_true rfl, Nat.le_of_ble_eq_true rfl⟩) ⟨fun a U g mk q => by obtain ⟨q0, q1, qP, qK, qD⟩ := q; exact ⟨q0, q1, qP, va_K.moved (u := U) (U := U.calling g mk a) (Vm.Alike.refl U.vm) qK, qD⟩, va_recv hK hP6 (ci := 13) (q0 := 0) rfl rfl, fun U hU hW => ⟨rfl, by rw [hU], by rw [hU]; exact hP6, va_K.moved hW.alike hK, hD6.weaken (fun _ _ _ _ => trivial)⟩⟩ rfl rfl hl.1 rfl (lv_room (Nat.le_of_ble_eq_true rfl)) dX12_feed_28 ⟨Nat.le_of_ble_eq_true rfl, Nat.le_of_ble_eq_true rfl⟩) hS6 (fun q _ h => hFc7 q h) hFc7 (fun τ8 t8 H8 lo8 ht8 hvm8 hw8 hB8 hz8 hk8 hS8 => ?_)
    obtain ⟨hP8, -, hD8⟩ := hB8
    rw [ht8] at hP8
    replace hD8 := hD8.weaken (fun _ q _ h => hFc7 q.1 h)
    clear hk8 hFc7 hz8 ht8 hvm8 hP6 hD6 hS6 H6
    clear lo6
    obtain ⟨f_8, rfl⟩ := hw8
    rw [show (sA (sI ((sA (sI σ 1 (nI ((n + 1 + 1 + 1 + 1) + 1 + 1 + 1 + 1))) 0 (f_6))) 1 (nI (((n + 1 + 1 + 1 + 1) + 1 + 1 + 1 + 1) + 1 + 1 + 1 + 1))) 0 (f_8) : RS) = (sA (sI σ 1 (nI (((n + 1 + 1 + 1 + 1) + 1 + 1 + 1 + 1) + 1 + 1 + 1 + 1))) 0 (f_8)) from (by simp only [sI_sI, sI_cm, sL_sL, sL_cm, sA_sA, sA_cm, sM_sM, sM_cm, sI_sL, sI_sA, sI_sM, sL_sA, sL_sM, sA_sM])] at hP8 hD8
    refine lv_aload_n hx hb dX12_feed_31 rfl (lv_at hl 0 rfl) ?_
    refine lv_iload hx hb dX12_feed_32 (lv_at hl 4 rfl) ?_
    have hFc9 := va_freeAll hD8 hS8 hA
    refine va_callv (va_runV (As := [.int k4]) (rest := []) ⟨hx, hb, hml, hown, hts⟩ (r_lay l dC dI h ad cA H8.size (sA (sI σ 1 (nI (((n + 1 + 1 + 1 + 1) + 1 + 1 + 1 + 1) + 1 + 1 + 1 + 1))) 0 (f_8)) (k4) ((((n + 1 + 1 + 1 + 1) + 1 + 1 + 1 + 1) + 1 + 1 + 1 + 1)) (show gI σ 1 = nI (((n + 1 + 1 + 1 + 1) + 1 + 1 + 1 + 1) + 1 + 1 + 1 + 1) by first | omega | rfl | assumption) (show (((n + 1 + 1 + 1 + 1) + 1 + 1 + 1 + 1) + 1 + 1 + 1 + 1) + 4 ≤ 2500 by first | omega | rfl | assumption)) (cwV 1 hts (goodIn_sub (fun w h => List.mem_cons_of_mem _ (List.mem_append_right _ (List.mem_append_right _ h))) (by decide +kernel)) rfl rfl rfl (by decide +kernel) ⟨Nat.le_of_ble_eq_true rfl, Nat.le_of_ble_eq_true rfl⟩) ⟨fun a U g mk q => by obtain ⟨q0, q1, qP, qK, qD⟩ := q; exact ⟨q0, q1, qP, va_K.moved (u := U) (U := U.calling g mk a) (Vm.Alike.refl U.vm) qK, qD⟩, va_recv hK hP8 (ci := 13) (q0 := 0) rfl rfl, fun U hU hW => ⟨rfl, by rw [hU], by rw [hU]; exact hP8, va_K.moved hW.alike hK, hD8.weaken (fun _ _ _ _ => trivial)⟩⟩ rfl rfl hl.1 rfl (lv_room (Nat.le_of_ble_eq_true rfl)) dX12_feed_34 ⟨Nat.le_of_ble_eq_true rfl, Nat.le_of_ble_eq_true rfl⟩) hS8 (fun q _ h => hFc9 q h) hFc9 (fun τ10 t10 H10 lo10 ht10 hvm10 hw10 hB10 hz10 hk10 hS10 => ?_)
    obtain ⟨hP10, -, hD10⟩ := hB10
    rw [ht10] at hP10
    replace hD10 := hD10.weaken (fun _ q _ h => hFc9 q.1 h)
    clear hk10 hFc9 hz10 ht10 hvm10 hP8 hD8 hS8 H8
    clear lo8
    obtain ⟨f_10, rfl⟩ := hw10
    rw [show (sA (sI ((sA (sI σ 1 (nI (((n + 1 + 1 + 1 + 1) + 1 + 1 + 1 + 1) + 1 + 1 + 1 + 1))) 0 (f_8))) 1 (nI ((((n + 1 + 1 + 1 + 1) + 1 + 1 + 1 + 1) + 1 + 1 + 1 + 1) + 1 + 1 + 1 + 1))) 0 (f_10) : RS) = (sA (sI σ 1 (nI ((((n + 1 + 1 + 1 + 1) + 1 + 1 + 1 + 1) + 1 + 1 + 1 + 1) + 1 + 1 + 1 + 1))) 0 (f_10)) from (by simp only [sI_sI, sI_cm, sL_sL, sL_cm, sA_sA, sA_cm, sM_sM, sM_cm, sI_sL, sI_sA, sI_sM, sL_sA, sL_sM, sA_sM])] at hP10 hD10
    refine lv_aload_n hx hb dX12_feed_37 rfl (lv_at hl 0 rfl) ?_
    refine lv_iload hx hb dX12_feed_38 (lv_at hl 5 rfl) ?_
    have hFc11 := va_freeAll hD10 hS10 hA
    refine va_callv (va_runV (As := [.int k5]) (rest := []) ⟨hx, hb, hml, hown, hts⟩ (r_lay l dC dI h ad cA H10.size (sA (sI σ 1 (nI ((((n + 1 + 1 + 1 + 1) + 1 + 1 + 1 + 1) + 1 + 1 + 1 + 1) + 1 + 1 + 1 + 1))) 0 (f_10)) (k5) (((((n + 1 + 1 + 1 + 1) + 1 + 1 + 1 + 1) + 1 + 1 + 1 + 1) + 1 + 1 + 1 + 1)) (show gI σ 1 = nI ((((n + 1 + 1 + 1 + 1) + 1 + 1 + 1 + 1) + 1 + 1 + 1 + 1) + 1 + 1 + 1 + 1) by first | omega | rfl | assumption) (show ((((n + 1 + 1 + 1 + 1) + 1 + 1 + 1 + 1) + 1 + 1 + 1 + 1) + 1 + 1 + 1 + 1) + 4 ≤ 2500 by first | omega | rfl | assumption)) (cwV 1 hts (goodIn_sub (fun w h => List.mem_cons_of_mem _ (List.mem_append_right _ (List.mem_append_right _ h))) (by decide +kernel)) rfl rfl rfl (by decide +kernel) ⟨Nat.le_of_ble_eq_true rfl, Nat.le_of_ble_eq_true rfl⟩) ⟨fun a U g mk q => by obtain ⟨q0, q1, qP, qK, qD⟩ := q; exact ⟨q0, q1, qP, va_K.moved (u := U) (U := U.calling g mk a) (Vm.Alike.refl U.vm) qK, qD⟩, va_recv hK hP10 (ci := 13) (q0 := 0) rfl rfl, fun U hU hW => ⟨rfl, by rw [hU], by rw [hU]; exact hP10, va_K.moved hW.alike hK, hD10.weaken (fun _ _ _ _ => trivial)⟩⟩ rfl rfl hl.1 rfl (lv_room (Nat.le_of_ble_eq_true rfl)) dX12_feed_40 ⟨Nat.le_of_ble_eq_true rfl, Nat.le_of_ble_eq_true rfl⟩) hS10 (fun q _ h => hFc11 q h) hFc11 (fun τ12 t12 H12 lo12 ht12 hvm12 hw12 hB12 hz12 hk12 hS12 => ?_)
    obtain ⟨hP12, -, hD12⟩ := hB12
    rw [ht12] at hP12
    replace hD12 := hD12.weaken (fun _ q _ h => hFc11 q.1 h)
    clear hk12 hFc11 hz12 ht12 hvm12 hP10 hD10 hS10 H10
    clear lo10
    obtain ⟨f_12, rfl⟩ := hw12
    rw [show (sA (sI ((sA (sI σ 1 (nI ((((n + 1 + 1 + 1 + 1) + 1 + 1 + 1 + 1) + 1 + 1 + 1 + 1) + 1 + 1 + 1 + 1))) 0 (f_10))) 1 (nI (((((n + 1 + 1 + 1 + 1) + 1 + 1 + 1 + 1) + 1 + 1 + 1 + 1) + 1 + 1 + 1 + 1) + 1 + 1 + 1 + 1))) 0 (f_12) : RS) = (sA (sI σ 1 (nI (((((n + 1 + 1 + 1 + 1) + 1 + 1 + 1 + 1) + 1 + 1 + 1 + 1) + 1 + 1 + 1 + 1) + 1 + 1 + 1 + 1))) 0 (f_12)) from (by simp only [sI_sI, sI_cm, sL_sL, sL_cm, sA_sA, sA_cm, sM_sM, sM_cm, sI_sL, sI_sA, sI_sM, sL_sA, sL_sM, sA_sM])] at hP12 hD12
    refine lv_aload_n hx hb dX12_feed_43 rfl (lv_at hl 0 rfl) ?_
    refine va_get (D := (dC, dI)) (ci := 13) (v := .int (nI (((((n + 1 + 1 + 1 + 1) + 1 + 1 + 1 + 1) + 1 + 1 + 1 + 1) + 1 + 1 + 1 + 1) + 1 + 1 + 1 + 1))) (C := RX12) (T := TX12) (N := 150) hx hb hts (fun w h => List.mem_cons_of_mem _ (List.mem_append_right _ (List.mem_append_left _ h))) hown hK hP12 0 rfl rfl 1 (by decide) (hts _ (List.mem_cons_of_mem _ (List.mem_append_left _ (List.mem_of_getElem? (i := 0) rfl)))) (fun _ h9 => h9) rfl dX12_feed_44 ?_
    exact W.iret (v := (nI (((((n + 1 + 1 + 1 + 1) + 1 + 1 + 1 + 1) + 1 + 1 + 1 + 1) + 1 + 1 + 1 + 1) + 1 + 1 + 1 + 1))) hx hb hr (fun t ht hW => ⟨⟨_, (sA (sI σ 1 (nI (((((n + 1 + 1 + 1 + 1) + 1 + 1 + 1 + 1) + 1 + 1 + 1 + 1) + 1 + 1 + 1 + 1) + 1 + 1 + 1 + 1))) 0 (f_12)), rfl, ⟨f_12, nI (((((n + 1 + 1 + 1 + 1) + 1 + 1 + 1 + 1) + 1 + 1 + 1 + 1) + 1 + 1 + 1 + 1) + 1 + 1 + 1 + 1), (((((n + 1 + 1 + 1 + 1) + 1 + 1 + 1 + 1) + 1 + 1 + 1 + 1) + 1 + 1 + 1 + 1) + 1 + 1 + 1 + 1), rfl, rfl, Or.inl ⟨by omega, by omega, rfl⟩⟩, by rw [ht]; exact hP12, va_K.moved hW.alike hK, by rw [hAe]; exact hD12⟩, hS12.F ht⟩) hS12.2.2 dX12_feed_47
  · have tc2 := Int32.lt_iff_toInt_lt.mp (Int32.not_le.mp hc2)
    rw [(nI_toInt (n := (n + 20)) (by omega)), (show (2500 : Int32).toInt = 2500 from by decide)] at tc2
    refine lv_bipush (v := (-3)) hx hb dX12_feed_13 (by decide) ?_
    exact W.iret (v := (-3)) hx hb hr (fun t ht hW => ⟨⟨_, σ, rfl, ⟨aI σ 0, (nI n), n, (by first | rfl | (simp only [sI_sI, sI_cm, sL_sL, sL_cm, sA_sA, sA_cm, sM_sM, sM_cm, sI_sL, sI_sA, sI_sM, sL_sA, sL_sM, sA_sM, sI_self, sL_self, sA_self, sM_self]; done) | (simp only [sI_sI, sI_cm, sL_sL, sL_cm, sA_sA, sA_cm, sM_sM, sM_cm, sI_sL, sI_sA, sI_sM, sL_sA, sL_sM, sA_sM, sI_self, sL_self, sA_self, sM_self, ← hn]; done)), rfl, Or.inr ⟨by omega, rfl, rfl⟩⟩, by rw [ht]; exact hP, va_K.moved hW.alike hK, by rw [hAe]; exact hD⟩, hS.F ht⟩) hS.2.2 dX12_feed_15
set_option maxRecDepth 20000 in
def ww_r_place : List Cond := .code yX12_place cX12_place 1 (some .int) :: ([Cond.fieldLink RX12 258 "PlainJavaModel" "placed" "I"] ++ (wsX120))
set_option maxHeartbeats 40000000 in
set_option maxRecDepth 100000 in
/-- place -/
theorem r_place (l : Launch) (dC : Nat → ClassId) (dI : Nat → Nat → Nat) (h : Nat) (ad : Nat → Nat) (cA : Nat → ClassId) (sz : Nat) (σ : RS) : Met l yX12_place ww_r_place ({ frames := 1, cells := 0, slots := 0, locals := 100 }) (va_Pc [.ref h] (fun U => rPre (dC, dI) h ad cA σ sz U)) (va_Qi (fun (r : Int32) (τ : RS) => τ = σ ∧ r = gI σ 120) (fun (τ : RS) (t : State) => rPost (dC, dI) h ad cA σ sz τ t) (va_A (RW h ad cA σ) sz)) 0 0 (va_A (RW h ad cA σ) sz) := by
  refine Met.ofW (cc := cX12_place) (maxL := 1) (ret := (some .int)) (by decide) rfl ?_
  intro p e s m args below meth c s₁ B hml hv
  obtain ⟨rfl, hsz, hP, hK, hD0⟩ := hv
  have hx := B.exec
  have hb := B.bytes
  have hr := B.returns
  have hts := atoms_spec (ws := ww_r_place) B.pre
  have hown : s.vm.findClass RX12 = some m.cls := findClass_of_methodNamed B.named
  have hlocks := B.notSynchronized
  subst hsz
  have hD := hD0.self (sz := s.heap.size)
  generalize hAe : va_A (RW h ad cA σ) s.heap.size = A at hD ⊢
  have hA : ∀ q : Nat, s.heap.size ≤ q → A q := fun q h => by rw [← hAe]; exact Or.inr h
  have hS : va_S A s.heap s.heap [] := va_S.rf
  have hl := lv_entry ([.ref h]) (n := 1) (Nat.le_of_ble_eq_true rfl)
  rw [lg_entry_eq]
  generalize (lg_sl ([.ref h]) ++ List.replicate (1 - (lg_sl ([.ref h])).length) Slot.unset).toArray = ls at hl ⊢
  have hl : lv_has ls 1 [(0, .ref h)] := hl
  refine lv_aload_n hx hb dX12_place_0 rfl (lv_at hl 0 rfl) ?_
  refine va_get (D := (dC, dI)) (ci := 13) (v := .int (gI σ 120)) (C := RX12) (T := TX12) (N := 150) hx hb hts (fun w h => List.mem_cons_of_mem _ (List.mem_append_right _ h)) hown hK hP 0 rfl rfl 120 (by decide) (hts _ (List.mem_cons_of_mem _ (List.mem_append_left _ (List.mem_of_getElem? (i := 0) rfl)))) (fun _ h9 => h9) rfl dX12_place_1 ?_
  exact W.iret (v := (gI σ 120)) hx hb hr (fun t ht hW => ⟨⟨_, σ, rfl, ⟨rfl, rfl⟩, by rw [ht]; exact hP, va_K.moved hW.alike hK, by rw [hAe]; exact hD⟩, hS.F ht⟩) hS.2.2 dX12_place_4
set_option maxRecDepth 20000 in
def ww_r_cut : List Cond := .code yX12_cut cX12_cut 2 (some .int) :: ([Cond.fieldLink RX12 310 "PlainJavaModel" "taped" "I"] ++ (wsX120))
set_option maxHeartbeats 40000000 in
set_option maxRecDepth 100000 in
/-- cut -/
theorem r_cut (l : Launch) (dC : Nat → ClassId) (dI : Nat → Nat → Nat) (h : Nat) (ad : Nat → Nat) (cA : Nat → ClassId) (sz : Nat) (σ : RS) (k : Int32) (n : Nat) (hn : gI σ 1 = nI n) (hb1 : n ≤ 2500) : Met l yX12_cut ww_r_cut ({ frames := 1, cells := 0, slots := 0, locals := 100 }) (va_Pc [.ref h, .int k] (fun U => rPre (dC, dI) h ad cA σ sz U)) (va_Qi (fun (r : Int32) (τ : RS) => ∃ (x : Int32), τ = sI σ 1 (x) ∧ (0 ≤ k.toInt ∧ k.toInt ≤ n ∧ x = nI n - k ∧ r = x ∨ ¬ (0 ≤ k.toInt ∧ k.toInt ≤ n) ∧ x = nI n ∧ r = -1)) (fun (τ : RS) (t : State) => rPost (dC, dI) h ad cA σ sz τ t) (va_A (RW h ad cA σ) sz)) 0 0 (va_A (RW h ad cA σ) sz) := by
  refine Met.ofW (cc := cX12_cut) (maxL := 2) (ret := (some .int)) (by decide) rfl ?_
  intro p e s m args below meth c s₁ B hml hv
  obtain ⟨rfl, hsz, hP, hK, hD0⟩ := hv
  have hx := B.exec
  have hb := B.bytes
  have hr := B.returns
  have hts := atoms_spec (ws := ww_r_cut) B.pre
  have hown : s.vm.findClass RX12 = some m.cls := findClass_of_methodNamed B.named
  have hlocks := B.notSynchronized
  subst hsz
  have hD := hD0.self (sz := s.heap.size)
  generalize hAe : va_A (RW h ad cA σ) s.heap.size = A at hD ⊢
  have hA : ∀ q : Nat, s.heap.size ≤ q → A q := fun q h => by rw [← hAe]; exact Or.inr h
  have hS : va_S A s.heap s.heap [] := va_S.rf
  have hl := lv_entry ([.ref h, .int k]) (n := 2) (Nat.le_of_ble_eq_true rfl)
  rw [lg_entry_eq]
  generalize (lg_sl ([.ref h, .int k]) ++ List.replicate (2 - (lg_sl ([.ref h, .int k])).length) Slot.unset).toArray = ls at hl ⊢
  have hl : lv_has ls 2 [(0, .ref h), (1, .int k)] := hl
  refine lv_iload_n hx hb dX12_cut_0 rfl (lv_at hl 1 rfl) ?_
  refine lv_if_lt (tgt := 12) hx hb dX12_cut_1 (by decide) (fun hc1 => ?_) (fun hc1 => ?_)
  · have tc1 := Int32.lt_iff_toInt_lt.mp hc1
    rw [(show (0 : Int32).toInt = 0 from by decide)] at tc1
    refine lv_iconst (v := (-1)) hx hb dX12_cut_12 (by decide) ?_
    exact W.iret (v := (-1)) hx hb hr (fun t ht hW => ⟨⟨_, σ, rfl, ⟨(nI n), (by first | rfl | (simp only [sI_sI, sI_cm, sL_sL, sL_cm, sA_sA, sA_cm, sM_sM, sM_cm, sI_sL, sI_sA, sI_sM, sL_sA, sL_sM, sA_sM, sI_self, sL_self, sA_self, sM_self]; done) | (simp only [sI_sI, sI_cm, sL_sL, sL_cm, sA_sA, sA_cm, sM_sM, sM_cm, sI_sL, sI_sA, sI_sM, sL_sA, sL_sM, sA_sM, sI_self, sL_self, sA_self, sM_self, ← hn]; done)), Or.inr ⟨by omega, rfl, rfl⟩⟩, by rw [ht]; exact hP, va_K.moved hW.alike hK, by rw [hAe]; exact hD⟩, hS.F ht⟩) hS.2.2 dX12_cut_13
  · have tc1 := Int32.le_iff_toInt_le.mp (Int32.not_lt.mp hc1)
    rw [(show (0 : Int32).toInt = 0 from by decide)] at tc1
    refine lv_iload_n hx hb dX12_cut_4 rfl (lv_at hl 1 rfl) ?_
    refine lv_aload_n hx hb dX12_cut_5 rfl (lv_at hl 0 rfl) ?_
    refine va_get (D := (dC, dI)) (ci := 13) (v := .int (nI n)) (C := RX12) (T := TX12) (N := 150) hx hb hts (fun w h => List.mem_cons_of_mem _ (List.mem_append_right _ h)) hown hK hP 0 rfl rfl 1 (by decide) (hts _ (List.mem_cons_of_mem _ (List.mem_append_left _ (List.mem_of_getElem? (i := 0) rfl)))) (fun _ h9 => h9) (congrArg (fun z => some (Value.int z)) hn) dX12_cut_6 ?_
    refine lv_icmp_le (tgt := 14) hx hb dX12_cut_9 (by decide) (fun hc2 => ?_) (fun hc2 => ?_)
    · have tc2 := Int32.le_iff_toInt_le.mp hc2
      rw [(nI_toInt (n := n) (by omega))] at tc2
      refine lv_aload_n hx hb dX12_cut_14 rfl (lv_at hl 0 rfl) ?_
      refine lv_dup hx hb dX12_cut_15 rfl ?_
      refine va_get (D := (dC, dI)) (ci := 13) (v := .int (nI n)) (C := RX12) (T := TX12) (N := 150) hx hb hts (fun w h => List.mem_cons_of_mem _ (List.mem_append_right _ h)) hown hK hP 0 rfl rfl 1 (by decide) (hts _ (List.mem_cons_of_mem _ (List.mem_append_left _ (List.mem_of_getElem? (i := 0) rfl)))) (fun _ h9 => h9) (congrArg (fun z => some (Value.int z)) hn) dX12_cut_16 ?_
      refine lv_iload_n hx hb dX12_cut_19 rfl (lv_at hl 1 rfl) ?_
      refine lv_isub hx hb dX12_cut_20 ?_
      refine lv_topi (fun x3 ex3 => ?_)
      refine va_put (D := (dC, dI)) (ci := 13) (v := .int x3) (ty := tyX12 1) (C := RX12) (T := TX12) (N := 150) hx hb hts (fun w h => List.mem_cons_of_mem _ (List.mem_append_right _ h)) tyX12 tyX12_ok nmX12 hown hK hP hD hS 0 rfl rfl 1 (by decide) (hts _ (List.mem_cons_of_mem _ (List.mem_append_left _ (List.mem_of_getElem? (i := 0) rfl)))) (fun _ h9 => h9) rfl (tyX12_ok 1 (by decide)) rfl rfl (Nat.le_of_ble_eq_true rfl) dX12_cut_21 (fun H4 lo4 hP4 hD4 hS4 => ?_)
      rw [RWf_1] at hP4 hD4
      clear hP hD hS
      refine lv_aload_n hx hb dX12_cut_24 rfl (lv_at hl 0 rfl) ?_
      refine va_get (D := (dC, dI)) (ci := 13) (v := .int x3) (C := RX12) (T := TX12) (N := 150) hx hb hts (fun w h => List.mem_cons_of_mem _ (List.mem_append_right _ h)) hown hK hP4 0 rfl rfl 1 (by decide) (hts _ (List.mem_cons_of_mem _ (List.mem_append_left _ (List.mem_of_getElem? (i := 0) rfl)))) (fun _ h9 => h9) rfl dX12_cut_25 ?_
      exact W.iret (v := x3) hx hb hr (fun t ht hW => ⟨⟨_, (sI σ 1 (x3)), rfl, ⟨x3, rfl, Or.inl ⟨by omega, by omega, ex3, rfl⟩⟩, by rw [ht]; exact hP4, va_K.moved hW.alike hK, by rw [hAe]; exact hD4⟩, hS4.F ht⟩) hS4.2.2 dX12_cut_28
    · have tc2 := Int32.lt_iff_toInt_lt.mp (Int32.not_le.mp hc2)
      rw [(nI_toInt (n := n) (by omega))] at tc2
      refine lv_iconst (v := (-1)) hx hb dX12_cut_12 (by decide) ?_
      exact W.iret (v := (-1)) hx hb hr (fun t ht hW => ⟨⟨_, σ, rfl, ⟨(nI n), (by first | rfl | (simp only [sI_sI, sI_cm, sL_sL, sL_cm, sA_sA, sA_cm, sM_sM, sM_cm, sI_sL, sI_sA, sI_sM, sL_sA, sL_sM, sA_sM, sI_self, sL_self, sA_self, sM_self]; done) | (simp only [sI_sI, sI_cm, sL_sL, sL_cm, sA_sA, sA_cm, sM_sM, sM_cm, sI_sL, sI_sA, sI_sM, sL_sA, sL_sM, sA_sM, sI_self, sL_self, sA_self, sM_self, ← hn]; done)), Or.inr ⟨by omega, rfl, rfl⟩⟩, by rw [ht]; exact hP, va_K.moved hW.alike hK, by rw [hAe]; exact hD⟩, hS.F ht⟩) hS.2.2 dX12_cut_13
set_option maxRecDepth 20000 in
def ww_r_argument : List Cond := .code yX12_argument cX12_argument 4 (some .int) :: ([Cond.fieldLink RX12 265 "PlainJavaModel" "argument" "[J"] ++ (wsX120))
set_option maxHeartbeats 40000000 in
set_option maxRecDepth 100000 in
/-- argument -/
theorem r_argument (l : Launch) (dC : Nat → ClassId) (dI : Nat → Nat → Nat) (h : Nat) (ad : Nat → Nat) (cA : Nat → ClassId) (sz : Nat) (σ : RS) (i : Int32) (v : Int64) : Met l yX12_argument ww_r_argument ({ frames := 1, cells := 0, slots := 0, locals := 100 }) (va_Pc [.ref h, .int i, .long v] (fun U => rPre (dC, dI) h ad cA σ sz U)) (va_Qi (fun (r : Int32) (τ : RS) => ∃ (f : Nat → Int64), τ = sM σ 124 (f) ∧ (0 ≤ i.toInt ∧ i.toInt < 6 ∧ r = 1 ∨ ¬ (0 ≤ i.toInt ∧ i.toInt < 6) ∧ r = -1)) (fun (τ : RS) (t : State) => rPost (dC, dI) h ad cA σ sz τ t) (va_A (RW h ad cA σ) sz)) 0 0 (va_A (RW h ad cA σ) sz) := by
  refine Met.ofW (cc := cX12_argument) (maxL := 4) (ret := (some .int)) (by decide) rfl ?_
  intro p e s m args below meth c s₁ B hml hv
  obtain ⟨rfl, hsz, hP, hK, hD0⟩ := hv
  have hx := B.exec
  have hb := B.bytes
  have hr := B.returns
  have hts := atoms_spec (ws := ww_r_argument) B.pre
  have hown : s.vm.findClass RX12 = some m.cls := findClass_of_methodNamed B.named
  have hlocks := B.notSynchronized
  subst hsz
  have hD := hD0.self (sz := s.heap.size)
  generalize hAe : va_A (RW h ad cA σ) s.heap.size = A at hD ⊢
  have hA : ∀ q : Nat, s.heap.size ≤ q → A q := fun q h => by rw [← hAe]; exact Or.inr h
  have hS : va_S A s.heap s.heap [] := va_S.rf
  have hl := lv_entry ([.ref h, .int i, .long v]) (n := 4) (Nat.le_of_ble_eq_true rfl)
  rw [lg_entry_eq]
  generalize (lg_sl ([.ref h, .int i, .long v]) ++ List.replicate (4 - (lg_sl ([.ref h, .int i, .long v])).length) Slot.unset).toArray = ls at hl ⊢
  have hl : lv_has ls 4 [(0, .ref h), (1, .int i), (2, .long v)] := hl
  refine lv_iload_n hx hb dX12_argument_0 rfl (lv_at hl 1 rfl) ?_
  refine lv_if_lt (tgt := 9) hx hb dX12_argument_1 (by decide) (fun hc1 => ?_) (fun hc1 => ?_)
  · have tc1 := Int32.lt_iff_toInt_lt.mp hc1
    rw [(show (0 : Int32).toInt = 0 from by decide)] at tc1
    refine lv_iconst (v := (-1)) hx hb dX12_argument_9 (by decide) ?_
    exact W.iret (v := (-1)) hx hb hr (fun t ht hW => ⟨⟨_, σ, rfl, ⟨aL σ 124, (by first | rfl | (simp only [sI_sI, sI_cm, sL_sL, sL_cm, sA_sA, sA_cm, sM_sM, sM_cm, sI_sL, sI_sA, sI_sM, sL_sA, sL_sM, sA_sM, sI_self, sL_self, sA_self, sM_self]; done) | (simp only [sI_sI, sI_cm, sL_sL, sL_cm, sA_sA, sA_cm, sM_sM, sM_cm, sI_sL, sI_sA, sI_sM, sL_sA, sL_sM, sA_sM, sI_self, sL_self, sA_self, sM_self, ← hn]; done)), Or.inr ⟨by omega, rfl⟩⟩, by rw [ht]; exact hP, va_K.moved hW.alike hK, by rw [hAe]; exact hD⟩, hS.F ht⟩) hS.2.2 dX12_argument_10
  · have tc1 := Int32.le_iff_toInt_le.mp (Int32.not_lt.mp hc1)
    rw [(show (0 : Int32).toInt = 0 from by decide)] at tc1
    refine lv_iload_n hx hb dX12_argument_4 rfl (lv_at hl 1 rfl) ?_
    refine lv_iconst (v := 5) hx hb dX12_argument_5 (by decide) ?_
    refine lv_icmp_le (tgt := 11) hx hb dX12_argument_6 (by decide) (fun hc2 => ?_) (fun hc2 => ?_)
    · have tc2 := Int32.le_iff_toInt_le.mp hc2
      rw [(show (5 : Int32).toInt = 5 from by decide)] at tc2
      refine lv_aload_n hx hb dX12_argument_11 rfl (lv_at hl 0 rfl) ?_
      refine va_get (D := (dC, dI)) (ci := 13) (v := .ref (ad 124)) (C := RX12) (T := TX12) (N := 150) hx hb hts (fun w h => List.mem_cons_of_mem _ (List.mem_append_right _ h)) hown hK hP 0 rfl rfl 124 (by decide) (hts _ (List.mem_cons_of_mem _ (List.mem_append_left _ (List.mem_of_getElem? (i := 0) rfl)))) (fun _ h9 => h9) rfl dX12_argument_12 ?_
      refine lv_iload_n hx hb dX12_argument_15 rfl (lv_at hl 1 rfl) ?_
      refine lv_lload_n hx hb dX12_argument_16 rfl (lv_at hl 2 rfl) ?_
      refine va_last hx hb hK hP hD hS 84 83 rfl rfl (vp_in_iff.mpr ⟨by omega, by omega⟩) dX12_argument_17 (fun H3 lo3 hP3 hD3 hS3 => ?_)
      rw [RWa_124] at hP3 hD3
      clear hP hD hS
      refine lv_iconst (v := 1) hx hb dX12_argument_18 (by decide) ?_
      exact W.iret (v := 1) hx hb hr (fun t ht hW => ⟨⟨_, (sM σ 124 (vp_updL (aL σ 124) ((i).toNatClampNeg) (v))), rfl, ⟨vp_updL (aL σ 124) ((i).toNatClampNeg) (v), rfl, Or.inl ⟨by omega, by omega, rfl⟩⟩, by rw [ht]; exact hP3, va_K.moved hW.alike hK, by rw [hAe]; exact hD3⟩, hS3.F ht⟩) hS3.2.2 dX12_argument_19
    · have tc2 := Int32.lt_iff_toInt_lt.mp (Int32.not_le.mp hc2)
      rw [(show (5 : Int32).toInt = 5 from by decide)] at tc2
      refine lv_iconst (v := (-1)) hx hb dX12_argument_9 (by decide) ?_
      exact W.iret (v := (-1)) hx hb hr (fun t ht hW => ⟨⟨_, σ, rfl, ⟨aL σ 124, (by first | rfl | (simp only [sI_sI, sI_cm, sL_sL, sL_cm, sA_sA, sA_cm, sM_sM, sM_cm, sI_sL, sI_sA, sI_sM, sL_sA, sL_sM, sA_sM, sI_self, sL_self, sA_self, sM_self]; done) | (simp only [sI_sI, sI_cm, sL_sL, sL_cm, sA_sA, sA_cm, sM_sM, sM_cm, sI_sL, sI_sA, sI_sM, sL_sA, sL_sM, sA_sM, sI_self, sL_self, sA_self, sM_self, ← hn]; done)), Or.inr ⟨by omega, rfl⟩⟩, by rw [ht]; exact hP, va_K.moved hW.alike hK, by rw [hAe]; exact hD⟩, hS.F ht⟩) hS.2.2 dX12_argument_10
set_option maxRecDepth 20000 in
def ww_r_input : List Cond := .code yX12_input cX12_input 2 (some .int) :: ([Cond.fieldLink RX12 890 "PlainJavaModel" "inputs" "I", Cond.fieldLink RX12 262 "PlainJavaModel" "input" "[I"] ++ (wsX120))
set_option maxHeartbeats 40000000 in
set_option maxRecDepth 100000 in
/-- input -/
theorem r_input (l : Launch) (dC : Nat → ClassId) (dI : Nat → Nat → Nat) (h : Nat) (ad : Nat → Nat) (cA : Nat → ClassId) (sz : Nat) (σ : RS) (v : Int32) (n : Nat) (hn : gI σ 123 = nI n) (hb1 : n ≤ 40) : Met l yX12_input ww_r_input ({ frames := 1, cells := 0, slots := 0, locals := 100 }) (va_Pc [.ref h, .int v] (fun U => rPre (dC, dI) h ad cA σ sz U)) (va_Qi (fun (r : Int32) (τ : RS) => ∃ (f : Nat → Int32) (x : Int32) (j : Nat), τ = sA (sI σ 123 (x)) 122 (f) ∧ x = nI j ∧ (n < 40 ∧ j = n + 1 ∧ r = x ∨ n = 40 ∧ j = n ∧ r = -3)) (fun (τ : RS) (t : State) => rPost (dC, dI) h ad cA σ sz τ t) (va_A (RW h ad cA σ) sz)) 0 0 (va_A (RW h ad cA σ) sz) := by
  refine Met.ofW (cc := cX12_input) (maxL := 2) (ret := (some .int)) (by decide) rfl ?_
  intro p e s m args below meth c s₁ B hml hv
  obtain ⟨rfl, hsz, hP, hK, hD0⟩ := hv
  have hx := B.exec
  have hb := B.bytes
  have hr := B.returns
  have hts := atoms_spec (ws := ww_r_input) B.pre
  have hown : s.vm.findClass RX12 = some m.cls := findClass_of_methodNamed B.named
  have hlocks := B.notSynchronized
  subst hsz
  have hD := hD0.self (sz := s.heap.size)
  generalize hAe : va_A (RW h ad cA σ) s.heap.size = A at hD ⊢
  have hA : ∀ q : Nat, s.heap.size ≤ q → A q := fun q h => by rw [← hAe]; exact Or.inr h
  have hS : va_S A s.heap s.heap [] := va_S.rf
  have hl := lv_entry ([.ref h, .int v]) (n := 2) (Nat.le_of_ble_eq_true rfl)
  rw [lg_entry_eq]
  generalize (lg_sl ([.ref h, .int v]) ++ List.replicate (2 - (lg_sl ([.ref h, .int v])).length) Slot.unset).toArray = ls at hl ⊢
  have hl : lv_has ls 2 [(0, .ref h), (1, .int v)] := hl
  refine lv_aload_n hx hb dX12_input_0 rfl (lv_at hl 0 rfl) ?_
  refine va_get (D := (dC, dI)) (ci := 13) (v := .int (nI n)) (C := RX12) (T := TX12) (N := 150) hx hb hts (fun w h => List.mem_cons_of_mem _ (List.mem_append_right _ h)) hown hK hP 0 rfl rfl 123 (by decide) (hts _ (List.mem_cons_of_mem _ (List.mem_append_left _ (List.mem_of_getElem? (i := 0) rfl)))) (fun _ h9 => h9) (congrArg (fun z => some (Value.int z)) hn) dX12_input_1 ?_
  refine lv_bipush (v := 40) hx hb dX12_input_4 (by decide) ?_
  refine lv_icmp_ne (tgt := 12) hx hb dX12_input_6 (by decide) (fun hc1 => ?_) (fun hc1 => ?_)
  · have tc1 : ¬ ((nI n)).toInt = (40 : Int32).toInt := (fun z => hc1 (Int32.toInt_inj.mp z))
    rw [(nI_toInt (n := n) (by omega)), (show (40 : Int32).toInt = 40 from by decide)] at tc1
    refine lv_aload_n hx hb dX12_input_12 rfl (lv_at hl 0 rfl) ?_
    refine va_get (D := (dC, dI)) (ci := 13) (v := .ref (ad 122)) (C := RX12) (T := TX12) (N := 150) hx hb hts (fun w h => List.mem_cons_of_mem _ (List.mem_append_right _ h)) hown hK hP 0 rfl rfl 122 (by decide) (hts _ (List.mem_cons_of_mem _ (List.mem_append_left _ (List.mem_of_getElem? (i := 1) rfl)))) (fun _ h9 => h9) rfl dX12_input_13 ?_
    refine lv_aload_n hx hb dX12_input_16 rfl (lv_at hl 0 rfl) ?_
    refine va_get (D := (dC, dI)) (ci := 13) (v := .int (nI n)) (C := RX12) (T := TX12) (N := 150) hx hb hts (fun w h => List.mem_cons_of_mem _ (List.mem_append_right _ h)) hown hK hP 0 rfl rfl 123 (by decide) (hts _ (List.mem_cons_of_mem _ (List.mem_append_left _ (List.mem_of_getElem? (i := 0) rfl)))) (fun _ h9 => h9) (congrArg (fun z => some (Value.int z)) hn) dX12_input_17 ?_
    refine lv_iload_n hx hb dX12_input_20 rfl (lv_at hl 1 rfl) ?_
    refine va_iast hx hb hK hP hD hS 83 82 rfl rfl (vp_in_nI (by omega) (by decide)) dX12_input_21 (fun H2 lo2 hP2 hD2 hS2 => ?_)
    rw [RWa_122] at hP2 hD2
    clear hP hD hS
    refine lv_aload_n hx hb dX12_input_22 rfl (lv_at hl 0 rfl) ?_
    refine lv_dup hx hb dX12_input_23 rfl ?_
    refine va_get (D := (dC, dI)) (ci := 13) (v := .int (nI n)) (C := RX12) (T := TX12) (N := 150) hx hb hts (fun w h => List.mem_cons_of_mem _ (List.mem_append_right _ h)) hown hK hP2 0 rfl rfl 123 (by decide) (hts _ (List.mem_cons_of_mem _ (List.mem_append_left _ (List.mem_of_getElem? (i := 0) rfl)))) (fun _ h9 => h9) (congrArg (fun z => some (Value.int z)) hn) dX12_input_24 ?_
    refine lv_iconst (v := 1) hx hb dX12_input_27 (by decide) ?_
    refine lv_iadd hx hb dX12_input_28 ?_
    refine lv_topi (fun x3 ex3 => ?_)
    obtain rfl : x3 = nI (n + 1) := ex3.trans (nI_add n 1)
    refine va_put (D := (dC, dI)) (ci := 13) (v := .int (nI (n + 1))) (ty := tyX12 123) (C := RX12) (T := TX12) (N := 150) hx hb hts (fun w h => List.mem_cons_of_mem _ (List.mem_append_right _ h)) tyX12 tyX12_ok nmX12 hown hK hP2 hD2 hS2 0 rfl rfl 123 (by decide) (hts _ (List.mem_cons_of_mem _ (List.mem_append_left _ (List.mem_of_getElem? (i := 0) rfl)))) (fun _ h9 => h9) rfl (tyX12_ok 123 (by decide)) rfl rfl (Nat.le_of_ble_eq_true rfl) dX12_input_29 (fun H4 lo4 hP4 hD4 hS4 => ?_)
    rw [RWf_123] at hP4 hD4
    clear hP2 hD2 hS2 H2 lo2
    rw [show ((sI (sA σ 122 (upd (aI σ 122) (((nI n)).toNatClampNeg) (v))) 123 ((nI (n + 1)))) : RS) = (sA (sI σ 123 ((nI (n + 1)))) 122 (upd (aI σ 122) (((nI n)).toNatClampNeg) (v))) from (by simp only [sI_sI, sI_cm, sL_sL, sL_cm, sA_sA, sA_cm, sM_sM, sM_cm, sI_sL, sI_sA, sI_sM, sL_sA, sL_sM, sA_sM])] at hP4 hD4
    refine lv_aload_n hx hb dX12_input_32 rfl (lv_at hl 0 rfl) ?_
    refine va_get (D := (dC, dI)) (ci := 13) (v := .int (nI (n + 1))) (C := RX12) (T := TX12) (N := 150) hx hb hts (fun w h => List.mem_cons_of_mem _ (List.mem_append_right _ h)) hown hK hP4 0 rfl rfl 123 (by decide) (hts _ (List.mem_cons_of_mem _ (List.mem_append_left _ (List.mem_of_getElem? (i := 0) rfl)))) (fun _ h9 => h9) rfl dX12_input_33 ?_
    exact W.iret (v := (nI (n + 1))) hx hb hr (fun t ht hW => ⟨⟨_, (sA (sI σ 123 ((nI (n + 1)))) 122 (upd (aI σ 122) (((nI n)).toNatClampNeg) (v))), rfl, ⟨upd (aI σ 122) (((nI n)).toNatClampNeg) (v), (nI (n + 1)), (n + 1), rfl, rfl, Or.inl ⟨by omega, rfl, rfl⟩⟩, by rw [ht]; exact hP4, va_K.moved hW.alike hK, by rw [hAe]; exact hD4⟩, hS4.F ht⟩) hS4.2.2 dX12_input_36
  · have tc1 := congrArg Int32.toInt hc1
    rw [(nI_toInt (n := n) (by omega)), (show (40 : Int32).toInt = 40 from by decide)] at tc1
    refine lv_bipush (v := (-3)) hx hb dX12_input_9 (by decide) ?_
    exact W.iret (v := (-3)) hx hb hr (fun t ht hW => ⟨⟨_, σ, rfl, ⟨aI σ 122, (nI n), n, (by first | rfl | (simp only [sI_sI, sI_cm, sL_sL, sL_cm, sA_sA, sA_cm, sM_sM, sM_cm, sI_sL, sI_sA, sI_sM, sL_sA, sL_sM, sA_sM, sI_self, sL_self, sA_self, sM_self]; done) | (simp only [sI_sI, sI_cm, sL_sL, sL_cm, sA_sA, sA_cm, sM_sM, sM_cm, sI_sL, sI_sA, sI_sM, sL_sA, sL_sM, sA_sM, sI_self, sL_self, sA_self, sM_self, ← hn]; done)), rfl, Or.inr ⟨by omega, rfl, rfl⟩⟩, by rw [ht]; exact hP, va_K.moved hW.alike hK, by rw [hAe]; exact hD⟩, hS.F ht⟩) hS.2.2 dX12_input_11
set_option maxRecDepth 20000 in
def ww_r_drain : List Cond := .code yX12_drain cX12_drain 2 (some .int) :: ([Cond.fieldLink RX12 890 "PlainJavaModel" "inputs" "I"] ++ (wsX120))
set_option maxHeartbeats 40000000 in
set_option maxRecDepth 100000 in
/-- drain -/
theorem r_drain (l : Launch) (dC : Nat → ClassId) (dI : Nat → Nat → Nat) (h : Nat) (ad : Nat → Nat) (cA : Nat → ClassId) (sz : Nat) (σ : RS) (n : Nat) (hn : gI σ 123 = nI n) : Met l yX12_drain ww_r_drain ({ frames := 1, cells := 0, slots := 0, locals := 100 }) (va_Pc [.ref h] (fun U => rPre (dC, dI) h ad cA σ sz U)) (va_Qi (fun (r : Int32) (τ : RS) => τ = sI σ 123 (0) ∧ r = nI n) (fun (τ : RS) (t : State) => rPost (dC, dI) h ad cA σ sz τ t) (va_A (RW h ad cA σ) sz)) 0 0 (va_A (RW h ad cA σ) sz) := by
  refine Met.ofW (cc := cX12_drain) (maxL := 2) (ret := (some .int)) (by decide) rfl ?_
  intro p e s m args below meth c s₁ B hml hv
  obtain ⟨rfl, hsz, hP, hK, hD0⟩ := hv
  have hx := B.exec
  have hb := B.bytes
  have hr := B.returns
  have hts := atoms_spec (ws := ww_r_drain) B.pre
  have hown : s.vm.findClass RX12 = some m.cls := findClass_of_methodNamed B.named
  have hlocks := B.notSynchronized
  subst hsz
  have hD := hD0.self (sz := s.heap.size)
  generalize hAe : va_A (RW h ad cA σ) s.heap.size = A at hD ⊢
  have hA : ∀ q : Nat, s.heap.size ≤ q → A q := fun q h => by rw [← hAe]; exact Or.inr h
  have hS : va_S A s.heap s.heap [] := va_S.rf
  have hl := lv_entry ([.ref h]) (n := 2) (Nat.le_of_ble_eq_true rfl)
  rw [lg_entry_eq]
  generalize (lg_sl ([.ref h]) ++ List.replicate (2 - (lg_sl ([.ref h])).length) Slot.unset).toArray = ls at hl ⊢
  have hl : lv_has ls 2 [(0, .ref h)] := hl
  refine lv_aload_n hx hb dX12_drain_0 rfl (lv_at hl 0 rfl) ?_
  refine va_get (D := (dC, dI)) (ci := 13) (v := .int (nI n)) (C := RX12) (T := TX12) (N := 150) hx hb hts (fun w h => List.mem_cons_of_mem _ (List.mem_append_right _ h)) hown hK hP 0 rfl rfl 123 (by decide) (hts _ (List.mem_cons_of_mem _ (List.mem_append_left _ (List.mem_of_getElem? (i := 0) rfl)))) (fun _ h9 => h9) (congrArg (fun z => some (Value.int z)) hn) dX12_drain_1 ?_
  refine lv_istore_n (lv' := [(1, .int (nI n)), (0, .ref h)]) hx hb dX12_drain_4 rfl hl (by decide) rfl (fun ls1 hl1 => ?_)
  refine lv_aload_n hx hb dX12_drain_5 rfl (lv_at hl1 1 rfl) ?_
  refine lv_iconst (v := 0) hx hb dX12_drain_6 (by decide) ?_
  refine va_put (D := (dC, dI)) (ci := 13) (v := .int 0) (ty := tyX12 123) (C := RX12) (T := TX12) (N := 150) hx hb hts (fun w h => List.mem_cons_of_mem _ (List.mem_append_right _ h)) tyX12 tyX12_ok nmX12 hown hK hP hD hS 0 rfl rfl 123 (by decide) (hts _ (List.mem_cons_of_mem _ (List.mem_append_left _ (List.mem_of_getElem? (i := 0) rfl)))) (fun _ h9 => h9) rfl (tyX12_ok 123 (by decide)) rfl rfl (Nat.le_of_ble_eq_true rfl) dX12_drain_7 (fun H2 lo2 hP2 hD2 hS2 => ?_)
  rw [RWf_123] at hP2 hD2
  clear hP hD hS
  refine lv_iload_n hx hb dX12_drain_10 rfl (lv_at hl1 0 rfl) ?_
  exact W.iret (v := (nI n)) hx hb hr (fun t ht hW => ⟨⟨_, (sI σ 123 (0)), rfl, ⟨rfl, rfl⟩, by rw [ht]; exact hP2, va_K.moved hW.alike hK, by rw [hAe]; exact hD2⟩, hS2.F ht⟩) hS2.2.2 dX12_drain_11
set_option maxRecDepth 20000 in
def ww_r_tokens : List Cond := .code yX12_tokens cX12_tokens 1 (some .int) :: ([Cond.fieldLink RX12 323 "PlainJavaModel" "count" "I"] ++ (wsX120))
set_option maxHeartbeats 40000000 in
set_option maxRecDepth 100000 in
/-- tokens -/
theorem r_tokens (l : Launch) (dC : Nat → ClassId) (dI : Nat → Nat → Nat) (h : Nat) (ad : Nat → Nat) (cA : Nat → ClassId) (sz : Nat) (σ : RS) : Met l yX12_tokens ww_r_tokens ({ frames := 1, cells := 0, slots := 0, locals := 100 }) (va_Pc [.ref h] (fun U => rPre (dC, dI) h ad cA σ sz U)) (va_Qi (fun (r : Int32) (τ : RS) => τ = σ ∧ (0 < (gI σ 2).toInt ∧ r = gI σ 2 - 1 ∨ (gI σ 2).toInt ≤ 0 ∧ r = 0)) (fun (τ : RS) (t : State) => rPost (dC, dI) h ad cA σ sz τ t) (va_A (RW h ad cA σ) sz)) 0 0 (va_A (RW h ad cA σ) sz) := by
  refine Met.ofW (cc := cX12_tokens) (maxL := 1) (ret := (some .int)) (by decide) rfl ?_
  intro p e s m args below meth c s₁ B hml hv
  obtain ⟨rfl, hsz, hP, hK, hD0⟩ := hv
  have hx := B.exec
  have hb := B.bytes
  have hr := B.returns
  have hts := atoms_spec (ws := ww_r_tokens) B.pre
  have hown : s.vm.findClass RX12 = some m.cls := findClass_of_methodNamed B.named
  have hlocks := B.notSynchronized
  subst hsz
  have hD := hD0.self (sz := s.heap.size)
  generalize hAe : va_A (RW h ad cA σ) s.heap.size = A at hD ⊢
  have hA : ∀ q : Nat, s.heap.size ≤ q → A q := fun q h => by rw [← hAe]; exact Or.inr h
  have hS : va_S A s.heap s.heap [] := va_S.rf
  have hl := lv_entry ([.ref h]) (n := 1) (Nat.le_of_ble_eq_true rfl)
  rw [lg_entry_eq]
  generalize (lg_sl ([.ref h]) ++ List.replicate (1 - (lg_sl ([.ref h])).length) Slot.unset).toArray = ls at hl ⊢
  have hl : lv_has ls 1 [(0, .ref h)] := hl
  refine lv_aload_n hx hb dX12_tokens_0 rfl (lv_at hl 0 rfl) ?_
  refine va_get (D := (dC, dI)) (ci := 13) (v := .int (gI σ 2)) (C := RX12) (T := TX12) (N := 150) hx hb hts (fun w h => List.mem_cons_of_mem _ (List.mem_append_right _ h)) hown hK hP 0 rfl rfl 2 (by decide) (hts _ (List.mem_cons_of_mem _ (List.mem_append_left _ (List.mem_of_getElem? (i := 0) rfl)))) (fun _ h9 => h9) rfl dX12_tokens_1 ?_
  refine lv_if_le (tgt := 16) hx hb dX12_tokens_4 (by decide) (fun hc1 => ?_) (fun hc1 => ?_)
  · have tc1 := Int32.le_iff_toInt_le.mp hc1
    rw [(show (0 : Int32).toInt = 0 from by decide)] at tc1
    refine lv_iconst (v := 0) hx hb dX12_tokens_16 (by decide) ?_
    exact W.iret (v := 0) hx hb hr (fun t ht hW => ⟨⟨_, σ, rfl, ⟨rfl, Or.inr ⟨by omega, rfl⟩⟩, by rw [ht]; exact hP, va_K.moved hW.alike hK, by rw [hAe]; exact hD⟩, hS.F ht⟩) hS.2.2 dX12_tokens_17
  · have tc1 := Int32.lt_iff_toInt_lt.mp (Int32.not_le.mp hc1)
    rw [(show (0 : Int32).toInt = 0 from by decide)] at tc1
    refine lv_aload_n hx hb dX12_tokens_7 rfl (lv_at hl 0 rfl) ?_
    refine va_get (D := (dC, dI)) (ci := 13) (v := .int (gI σ 2)) (C := RX12) (T := TX12) (N := 150) hx hb hts (fun w h => List.mem_cons_of_mem _ (List.mem_append_right _ h)) hown hK hP 0 rfl rfl 2 (by decide) (hts _ (List.mem_cons_of_mem _ (List.mem_append_left _ (List.mem_of_getElem? (i := 0) rfl)))) (fun _ h9 => h9) rfl dX12_tokens_8 ?_
    refine lv_iconst (v := 1) hx hb dX12_tokens_11 (by decide) ?_
    refine lv_isub hx hb dX12_tokens_12 ?_
    refine lv_topi (fun x2 ex2 => ?_)
    refine lv_goto (tgt := 17) hx hb dX12_tokens_13 (by decide) ?_
    exact W.iret (v := x2) hx hb hr (fun t ht hW => ⟨⟨_, σ, rfl, ⟨rfl, Or.inl ⟨by omega, ex2⟩⟩, by rw [ht]; exact hP, va_K.moved hW.alike hK, by rw [hAe]; exact hD⟩, hS.F ht⟩) hS.2.2 dX12_tokens_17
