set_option maxRecDepth 20000 in
def ww_X8_init : List Cond := .code yX8_init cX8_init 7 none :: ([Cond.methodLink RX8 3 objectInit, Cond.instanceMethod objectInit, Cond.code objectInit ⟨#[0xb1]⟩ 1 none, Cond.fieldLink RX8 9 "PlainJava$Statement" "link" "I", Cond.constantLong RX8 15 (-1), Cond.fieldLink RX8 17 "PlainJava$Statement" "breaks" "J", Cond.fieldLink RX8 21 "PlainJava$Statement" "continues" "J", Cond.fieldLink RX8 24 "PlainJava$Statement" "kind" "I", Cond.fieldLink RX8 27 "PlainJava$Statement" "first" "I", Cond.fieldLink RX8 30 "PlainJava$Statement" "level" "I", Cond.fieldLink RX8 33 "PlainJava$Statement" "parent" "LPlainJava$Statement;", Cond.fieldLink RX8 37 "PlainJava$Statement" "known" "J"] ++ (wsX80))
set_option maxHeartbeats 40000000 in
set_option maxRecDepth 100000 in
/-- Statement(kind, first, level, null, known) -/
theorem c_X8_init (l : Launch) (dC : Nat → ClassId) (dI : Nat → Nat → Nat) (h0 : Nat) (k1 : Int32) (k2 : Int32) (k3 : Int32) (k5 : Int64) (sz : Nat) : Met l yX8_init ww_X8_init ({ frames := 1, cells := 0, slots := 0, locals := 100 }) (va_Pc [.ref h0, .int k1, .int k2, .int k3, .null, .long k5] (fun U => U.heap.size = sz ∧ va_P (dC, dI) vwCl [(h0, .inr (9, [.int 0, .int 0, .int 0, .null, .long 0, .null, .null, .null, .null, .null, .int 0, .null, .int 0, .int 0, .int 0, .long 0, .long 0, .long 0, .long 0, .int 0, .int 0]))] U.heap ∧ va_K (dC, dI) vwCl [] U ∧ va_D (fun _ => True) [(h0, .inr (9, [.int 0, .int 0, .int 0, .null, .long 0, .null, .null, .null, .null, .null, .int 0, .null, .int 0, .int 0, .int 0, .long 0, .long 0, .long 0, .long 0, .int 0, .int 0]))])) (va_Qv (fun _ : Unit => True) (fun (_ : Unit) (t : State) => va_P (dC, dI) vwCl [(h0, .inr (9, [.int k1, .int k2, .int k3, .null, .long k5, .null, .null, .null, .null, .null, .int (-1), .null, .int 0, .int 0, .int 0, .long 0, .long 0, .long (-1), .long (-1), .int 0, .int 0]))] t.heap ∧ va_K (dC, dI) vwCl [] t ∧ va_D (va_A [(h0, .inr (9, [.int 0, .int 0, .int 0, .null, .long 0, .null, .null, .null, .null, .null, .int 0, .null, .int 0, .int 0, .int 0, .long 0, .long 0, .long 0, .long 0, .int 0, .int 0]))] sz) [(h0, .inr (9, [.int k1, .int k2, .int k3, .null, .long k5, .null, .null, .null, .null, .null, .int (-1), .null, .int 0, .int 0, .int 0, .long 0, .long 0, .long (-1), .long (-1), .int 0, .int 0]))]) (va_A [(h0, .inr (9, [.int 0, .int 0, .int 0, .null, .long 0, .null, .null, .null, .null, .null, .int 0, .null, .int 0, .int 0, .int 0, .long 0, .long 0, .long 0, .long 0, .int 0, .int 0]))] sz)) 0 0 (va_A [(h0, .inr (9, [.int 0, .int 0, .int 0, .null, .long 0, .null, .null, .null, .null, .null, .int 0, .null, .int 0, .int 0, .int 0, .long 0, .long 0, .long 0, .long 0, .int 0, .int 0]))] sz) := by
  refine Met.ofW (cc := cX8_init) (maxL := 7) (ret := none) (by decide) rfl ?_
  intro p e s m args below meth c s₁ B hml hv
  obtain ⟨rfl, hsz, hP, hK, hD0⟩ := hv
  have hx := B.exec
  have hb := B.bytes
  have hr := B.returns
  have hts := atoms_spec (ws := ww_X8_init) B.pre
  have hown : s.vm.findClass RX8 = some m.cls := findClass_of_methodNamed B.named
  have hlocks := B.notSynchronized
  have hin : meth.name = "<init>" := (name_of_methodNamed B.named B.method).1
  subst hsz
  have hD := hD0.self (sz := s.heap.size)
  generalize hAe : va_A [(h0, .inr (9, [.int 0, .int 0, .int 0, .null, .long 0, .null, .null, .null, .null, .null, .int 0, .null, .int 0, .int 0, .int 0, .long 0, .long 0, .long 0, .long 0, .int 0, .int 0]))] s.heap.size = A at hD ⊢
  have hA : ∀ q : Nat, s.heap.size ≤ q → A q := fun q h => by rw [← hAe]; exact Or.inr h
  have hS : va_S A s.heap s.heap [] := va_S.rf
  have hP : va_P (dC, dI) vwCl [(h0, .inr (9, [.int 0, .int 0, .int 0, .null, .long 0, .null, .null, .null, .null, .null, .int 0, .null, .int 0, .int 0, .int 0, .long 0, .long 0, .long 0, .long 0, .int 0, .int 0]))] s.heap := hP
  have hl := lv_entry ([.ref h0, .int k1, .int k2, .int k3, .null, .long k5]) (n := 7) (Nat.le_of_ble_eq_true rfl)
  rw [lg_entry_eq]
  generalize (lg_sl ([.ref h0, .int k1, .int k2, .int k3, .null, .long k5]) ++ List.replicate (7 - (lg_sl ([.ref h0, .int k1, .int k2, .int k3, .null, .long k5])).length) Slot.unset).toArray = ls at hl ⊢
  have hl : lv_has ls 7 [(0, .ref h0), (1, .int k1), (2, .int k2), (3, .int k3), (4, .null), (5, .long k5)] := hl
  refine lv_aload_n hx hb dX8_init_0 rfl (lv_at hl 0 rfl) ?_
  refine W.objInit hx hb hown (hts _ (List.mem_cons_of_mem _ (List.mem_append_left _ (List.mem_of_getElem? (i := 0) rfl)))) (hts _ (List.mem_cons_of_mem _ (List.mem_append_left _ (List.mem_of_getElem? (i := 1) rfl)))) (hts _ (List.mem_cons_of_mem _ (List.mem_append_left _ (List.mem_of_getElem? (i := 2) rfl)))) rfl (by rw [hml]; exact hl.1) rfl dX8_init_1 (Nat.le_of_ble_eq_true rfl) (Nat.le_of_ble_eq_true rfl) ?_
  refine W.eq (g2 := F0 m 4 ls []) rfl ?_
  refine lv_aload_n hx hb dX8_init_4 rfl (lv_at hl 0 rfl) ?_
  refine lv_iconst (v := (-1)) hx hb dX8_init_5 (by decide) ?_
  refine va_put (D := (dC, dI)) (ci := 9) (v := .int (-1)) (ty := tyX8 10) (C := RX8) (T := TX8) (N := 21) hx hb hts (fun w h => List.mem_cons_of_mem _ (List.mem_append_right _ h)) tyX8 tyX8_ok nmX8 hown hK hP hD hS 0 rfl rfl 10 (by decide) (hts _ (List.mem_cons_of_mem _ (List.mem_append_left _ (List.mem_of_getElem? (i := 3) rfl)))) (fun _ h9 => h9) rfl (tyX8_ok 10 (by decide)) rfl rfl (Nat.le_of_ble_eq_true rfl) dX8_init_6 (fun H1 lo1 hP1 hD1 hS1 => ?_)
  clear hP hD hS
  replace hP1 : va_P (dC, dI) vwCl [(h0, .inr (9, [.int 0, .int 0, .int 0, .null, .long 0, .null, .null, .null, .null, .null, .int (-1), .null, .int 0, .int 0, .int 0, .long 0, .long 0, .long 0, .long 0, .int 0, .int 0]))] H1 := hP1
  replace hD1 : va_D A [(h0, .inr (9, [.int 0, .int 0, .int 0, .null, .long 0, .null, .null, .null, .null, .null, .int (-1), .null, .int 0, .int 0, .int 0, .long 0, .long 0, .long 0, .long 0, .int 0, .int 0]))] := hD1
  refine lv_aload_n hx hb dX8_init_9 rfl (lv_at hl 0 rfl) ?_
  refine lv_ldc2 (v := (-1)) hx hb hown (hts _ (List.mem_cons_of_mem _ (List.mem_append_left _ (List.mem_of_getElem? (i := 4) rfl)))) dX8_init_10 ?_
  refine va_put (D := (dC, dI)) (ci := 9) (v := .long (-1)) (ty := tyX8 17) (C := RX8) (T := TX8) (N := 21) hx hb hts (fun w h => List.mem_cons_of_mem _ (List.mem_append_right _ h)) tyX8 tyX8_ok nmX8 hown hK hP1 hD1 hS1 0 rfl rfl 17 (by decide) (hts _ (List.mem_cons_of_mem _ (List.mem_append_left _ (List.mem_of_getElem? (i := 5) rfl)))) (fun _ h9 => h9) rfl (tyX8_ok 17 (by decide)) rfl rfl (Nat.le_of_ble_eq_true rfl) dX8_init_13 (fun H2 lo2 hP2 hD2 hS2 => ?_)
  clear hP1 hD1 hS1 H1 lo1
  replace hP2 : va_P (dC, dI) vwCl [(h0, .inr (9, [.int 0, .int 0, .int 0, .null, .long 0, .null, .null, .null, .null, .null, .int (-1), .null, .int 0, .int 0, .int 0, .long 0, .long 0, .long (-1), .long 0, .int 0, .int 0]))] H2 := hP2
  replace hD2 : va_D A [(h0, .inr (9, [.int 0, .int 0, .int 0, .null, .long 0, .null, .null, .null, .null, .null, .int (-1), .null, .int 0, .int 0, .int 0, .long 0, .long 0, .long (-1), .long 0, .int 0, .int 0]))] := hD2
  refine lv_aload_n hx hb dX8_init_16 rfl (lv_at hl 0 rfl) ?_
  refine lv_ldc2 (v := (-1)) hx hb hown (hts _ (List.mem_cons_of_mem _ (List.mem_append_left _ (List.mem_of_getElem? (i := 4) rfl)))) dX8_init_17 ?_
  refine va_put (D := (dC, dI)) (ci := 9) (v := .long (-1)) (ty := tyX8 18) (C := RX8) (T := TX8) (N := 21) hx hb hts (fun w h => List.mem_cons_of_mem _ (List.mem_append_right _ h)) tyX8 tyX8_ok nmX8 hown hK hP2 hD2 hS2 0 rfl rfl 18 (by decide) (hts _ (List.mem_cons_of_mem _ (List.mem_append_left _ (List.mem_of_getElem? (i := 6) rfl)))) (fun _ h9 => h9) rfl (tyX8_ok 18 (by decide)) rfl rfl (Nat.le_of_ble_eq_true rfl) dX8_init_20 (fun H3 lo3 hP3 hD3 hS3 => ?_)
  clear hP2 hD2 hS2 H2 lo2
  replace hP3 : va_P (dC, dI) vwCl [(h0, .inr (9, [.int 0, .int 0, .int 0, .null, .long 0, .null, .null, .null, .null, .null, .int (-1), .null, .int 0, .int 0, .int 0, .long 0, .long 0, .long (-1), .long (-1), .int 0, .int 0]))] H3 := hP3
  replace hD3 : va_D A [(h0, .inr (9, [.int 0, .int 0, .int 0, .null, .long 0, .null, .null, .null, .null, .null, .int (-1), .null, .int 0, .int 0, .int 0, .long 0, .long 0, .long (-1), .long (-1), .int 0, .int 0]))] := hD3
  refine lv_aload_n hx hb dX8_init_23 rfl (lv_at hl 0 rfl) ?_
  refine lv_iload_n hx hb dX8_init_24 rfl (lv_at hl 1 rfl) ?_
  refine va_putF (D := (dC, dI)) (ci := 9) (v := .int k1) (ty := tyX8 0) (C := RX8) (T := TX8) (N := 21) hx hb hts (fun w h => List.mem_cons_of_mem _ (List.mem_append_right _ h)) tyX8 tyX8_ok nmX8 hown hK hP3 hD3 hS3 0 rfl rfl 0 (by decide) (hts _ (List.mem_cons_of_mem _ (List.mem_append_left _ (List.mem_of_getElem? (i := 7) rfl)))) (fun _ h9 => h9) rfl hin rfl (tyX8_ok 0 (by decide)) rfl rfl (Nat.le_of_ble_eq_true rfl) dX8_init_25 (fun H4 lo4 hP4 hD4 hS4 => ?_)
  clear hP3 hD3 hS3 H3 lo3
  replace hP4 : va_P (dC, dI) vwCl [(h0, .inr (9, [.int k1, .int 0, .int 0, .null, .long 0, .null, .null, .null, .null, .null, .int (-1), .null, .int 0, .int 0, .int 0, .long 0, .long 0, .long (-1), .long (-1), .int 0, .int 0]))] H4 := hP4
  replace hD4 : va_D A [(h0, .inr (9, [.int k1, .int 0, .int 0, .null, .long 0, .null, .null, .null, .null, .null, .int (-1), .null, .int 0, .int 0, .int 0, .long 0, .long 0, .long (-1), .long (-1), .int 0, .int 0]))] := hD4
  refine lv_aload_n hx hb dX8_init_28 rfl (lv_at hl 0 rfl) ?_
  refine lv_iload_n hx hb dX8_init_29 rfl (lv_at hl 2 rfl) ?_
  refine va_putF (D := (dC, dI)) (ci := 9) (v := .int k2) (ty := tyX8 1) (C := RX8) (T := TX8) (N := 21) hx hb hts (fun w h => List.mem_cons_of_mem _ (List.mem_append_right _ h)) tyX8 tyX8_ok nmX8 hown hK hP4 hD4 hS4 0 rfl rfl 1 (by decide) (hts _ (List.mem_cons_of_mem _ (List.mem_append_left _ (List.mem_of_getElem? (i := 8) rfl)))) (fun _ h9 => h9) rfl hin rfl (tyX8_ok 1 (by decide)) rfl rfl (Nat.le_of_ble_eq_true rfl) dX8_init_30 (fun H5 lo5 hP5 hD5 hS5 => ?_)
  clear hP4 hD4 hS4 H4 lo4
  replace hP5 : va_P (dC, dI) vwCl [(h0, .inr (9, [.int k1, .int k2, .int 0, .null, .long 0, .null, .null, .null, .null, .null, .int (-1), .null, .int 0, .int 0, .int 0, .long 0, .long 0, .long (-1), .long (-1), .int 0, .int 0]))] H5 := hP5
  replace hD5 : va_D A [(h0, .inr (9, [.int k1, .int k2, .int 0, .null, .long 0, .null, .null, .null, .null, .null, .int (-1), .null, .int 0, .int 0, .int 0, .long 0, .long 0, .long (-1), .long (-1), .int 0, .int 0]))] := hD5
  refine lv_aload_n hx hb dX8_init_33 rfl (lv_at hl 0 rfl) ?_
  refine lv_iload_n hx hb dX8_init_34 rfl (lv_at hl 3 rfl) ?_
  refine va_putF (D := (dC, dI)) (ci := 9) (v := .int k3) (ty := tyX8 2) (C := RX8) (T := TX8) (N := 21) hx hb hts (fun w h => List.mem_cons_of_mem _ (List.mem_append_right _ h)) tyX8 tyX8_ok nmX8 hown hK hP5 hD5 hS5 0 rfl rfl 2 (by decide) (hts _ (List.mem_cons_of_mem _ (List.mem_append_left _ (List.mem_of_getElem? (i := 9) rfl)))) (fun _ h9 => h9) rfl hin rfl (tyX8_ok 2 (by decide)) rfl rfl (Nat.le_of_ble_eq_true rfl) dX8_init_35 (fun H6 lo6 hP6 hD6 hS6 => ?_)
  clear hP5 hD5 hS5 H5 lo5
  replace hP6 : va_P (dC, dI) vwCl [(h0, .inr (9, [.int k1, .int k2, .int k3, .null, .long 0, .null, .null, .null, .null, .null, .int (-1), .null, .int 0, .int 0, .int 0, .long 0, .long 0, .long (-1), .long (-1), .int 0, .int 0]))] H6 := hP6
  replace hD6 : va_D A [(h0, .inr (9, [.int k1, .int k2, .int k3, .null, .long 0, .null, .null, .null, .null, .null, .int (-1), .null, .int 0, .int 0, .int 0, .long 0, .long 0, .long (-1), .long (-1), .int 0, .int 0]))] := hD6
  refine lv_aload_n hx hb dX8_init_38 rfl (lv_at hl 0 rfl) ?_
  refine lv_aloadN hx hb dX8_init_39 (lv_at hl 4 rfl) ?_
  refine va_putF (D := (dC, dI)) (ci := 9) (v := .null) (ty := tyX8 3) (C := RX8) (T := TX8) (N := 21) hx hb hts (fun w h => List.mem_cons_of_mem _ (List.mem_append_right _ h)) tyX8 tyX8_ok nmX8 hown hK hP6 hD6 hS6 0 rfl rfl 3 (by decide) (hts _ (List.mem_cons_of_mem _ (List.mem_append_left _ (List.mem_of_getElem? (i := 10) rfl)))) (fun _ h9 => h9) rfl hin rfl (tyX8_ok 3 (by decide)) rfl rfl (Nat.le_of_ble_eq_true rfl) dX8_init_41 (fun H7 lo7 hP7 hD7 hS7 => ?_)
  clear hP6 hD6 hS6 H6 lo6
  replace hP7 : va_P (dC, dI) vwCl [(h0, .inr (9, [.int k1, .int k2, .int k3, .null, .long 0, .null, .null, .null, .null, .null, .int (-1), .null, .int 0, .int 0, .int 0, .long 0, .long 0, .long (-1), .long (-1), .int 0, .int 0]))] H7 := hP7
  replace hD7 : va_D A [(h0, .inr (9, [.int k1, .int k2, .int k3, .null, .long 0, .null, .null, .null, .null, .null, .int (-1), .null, .int 0, .int 0, .int 0, .long 0, .long 0, .long (-1), .long (-1), .int 0, .int 0]))] := hD7
  refine lv_aload_n hx hb dX8_init_44 rfl (lv_at hl 0 rfl) ?_
  refine lv_lload hx hb dX8_init_45 (lv_at hl 5 rfl) ?_
  refine va_putF (D := (dC, dI)) (ci := 9) (v := .long k5) (ty := tyX8 4) (C := RX8) (T := TX8) (N := 21) hx hb hts (fun w h => List.mem_cons_of_mem _ (List.mem_append_right _ h)) tyX8 tyX8_ok nmX8 hown hK hP7 hD7 hS7 0 rfl rfl 4 (by decide) (hts _ (List.mem_cons_of_mem _ (List.mem_append_left _ (List.mem_of_getElem? (i := 11) rfl)))) (fun _ h9 => h9) rfl hin rfl (tyX8_ok 4 (by decide)) rfl rfl (Nat.le_of_ble_eq_true rfl) dX8_init_47 (fun H8 lo8 hP8 hD8 hS8 => ?_)
  clear hP7 hD7 hS7 H7 lo7
  replace hP8 : va_P (dC, dI) vwCl [(h0, .inr (9, [.int k1, .int k2, .int k3, .null, .long k5, .null, .null, .null, .null, .null, .int (-1), .null, .int 0, .int 0, .int 0, .long 0, .long 0, .long (-1), .long (-1), .int 0, .int 0]))] H8 := hP8
  replace hD8 : va_D A [(h0, .inr (9, [.int k1, .int k2, .int k3, .null, .long k5, .null, .null, .null, .null, .null, .int (-1), .null, .int 0, .int 0, .int 0, .long 0, .long 0, .long (-1), .long (-1), .int 0, .int 0]))] := hD8
  exact W.vret hx hb hr (fun t ht hW => ⟨⟨(), rfl, trivial, by rw [ht]; exact hP8, va_K.moved hW.alike hK, hD8⟩, hS8.F ht⟩) hS8.2.2 dX8_init_50
set_option maxRecDepth 20000 in
def ww_X5_init : List Cond := .code yX5_init cX5_init 6 none :: ([Cond.methodLink RX5 3 objectInit, Cond.instanceMethod objectInit, Cond.code objectInit ⟨#[0xb1]⟩ 1 none, Cond.arrayClass .int, Cond.fieldLink RX5 9 "PlainJava$Method" "paramTypes" "[I", Cond.classLink RX5 15 RX8, Cond.instantiable RX8 21, Cond.initialized RX8, Cond.methodLink RX5 17 yX8_init, Cond.instanceMethod yX8_init, Cond.fieldLink RX5 20 "PlainJava$Method" "body" "LPlainJava$Statement;", Cond.fieldLink RX5 24 "PlainJava$Method" "name" "I", Cond.fieldLink RX5 28 "PlainJava$Method" "key" "J", Cond.fieldLink RX5 32 "PlainJava$Method" "type" "I", Cond.fieldLink RX5 35 "PlainJava$Method" "firstVariable" "I"] ++ (wsX50 ++ (wsX80 ++ (ww_X8_init))))
set_option maxHeartbeats 40000000 in
set_option maxRecDepth 100000 in
/-- Method(name, key, type, firstVariable) -/
theorem c_X5_init (l : Launch) (dC : Nat → ClassId) (dI : Nat → Nat → Nat) (h0 : Nat) (k1 : Int32) (k2 : Int64) (k3 : Int32) (k4 : Int32) (sz : Nat) : Met l yX5_init ww_X5_init ({ frames := 2, cells := 2, slots := 27, locals := 200 }) (va_Pc [.ref h0, .int k1, .long k2, .int k3, .int k4] (fun U => U.heap.size = sz ∧ va_P (dC, dI) vwCl [(h0, .inr (6, [.int 0, .long 0, .int 0, .null, .int 0, .int 0, .null]))] U.heap ∧ va_K (dC, dI) vwCl [] U ∧ va_D (fun _ => True) [(h0, .inr (6, [.int 0, .long 0, .int 0, .null, .int 0, .int 0, .null]))])) (va_Qv (fun _ : Unit => True) (fun (_ : Unit) (t : State) => ∃ (q1 : Nat) (cA1 : ClassId) (q4 : Nat), va_P (dC, dI) vwCl [(h0, .inr (6, [.int k1, .long k2, .int k3, .ref q1, .int k4, .int 0, .ref q4])), (q1, .inl (cA1, (6, .inl (fun _ => 0)))), (q4, .inr (9, [.int 92, .int 0, .int 0, .null, .long 0, .null, .null, .null, .null, .null, .int (-1), .null, .int 0, .int 0, .int 0, .long 0, .long 0, .long (-1), .long (-1), .int 0, .int 0]))] t.heap ∧ va_K (dC, dI) vwCl [(cA1, .int)] t ∧ va_D (va_A [(h0, .inr (6, [.int 0, .long 0, .int 0, .null, .int 0, .int 0, .null]))] sz) [(h0, .inr (6, [.int k1, .long k2, .int k3, .ref q1, .int k4, .int 0, .ref q4])), (q1, .inl (cA1, (6, .inl (fun _ => 0)))), (q4, .inr (9, [.int 92, .int 0, .int 0, .null, .long 0, .null, .null, .null, .null, .null, .int (-1), .null, .int 0, .int 0, .int 0, .long 0, .long 0, .long (-1), .long (-1), .int 0, .int 0]))]) (va_A [(h0, .inr (6, [.int 0, .long 0, .int 0, .null, .int 0, .int 0, .null]))] sz)) 2 27 (va_A [(h0, .inr (6, [.int 0, .long 0, .int 0, .null, .int 0, .int 0, .null]))] sz) := by
  refine Met.ofW (cc := cX5_init) (maxL := 6) (ret := none) (by decide) rfl ?_
  intro p e s m args below meth c s₁ B hml hv
  obtain ⟨rfl, hsz, hP, hK, hD0⟩ := hv
  have hx := B.exec
  have hb := B.bytes
  have hr := B.returns
  have hts := atoms_spec (ws := ww_X5_init) B.pre
  have hown : s.vm.findClass RX5 = some m.cls := findClass_of_methodNamed B.named
  have hlocks := B.notSynchronized
  have hin : meth.name = "<init>" := (name_of_methodNamed B.named B.method).1
  subst hsz
  have hD := hD0.self (sz := s.heap.size)
  generalize hAe : va_A [(h0, .inr (6, [.int 0, .long 0, .int 0, .null, .int 0, .int 0, .null]))] s.heap.size = A at hD ⊢
  have hA : ∀ q : Nat, s.heap.size ≤ q → A q := fun q h => by rw [← hAe]; exact Or.inr h
  have hS : va_S A s.heap s.heap [] := va_S.rf
  have hP : va_P (dC, dI) vwCl [(h0, .inr (6, [.int 0, .long 0, .int 0, .null, .int 0, .int 0, .null]))] s.heap := hP
  have hl := lv_entry ([.ref h0, .int k1, .long k2, .int k3, .int k4]) (n := 6) (Nat.le_of_ble_eq_true rfl)
  rw [lg_entry_eq]
  generalize (lg_sl ([.ref h0, .int k1, .long k2, .int k3, .int k4]) ++ List.replicate (6 - (lg_sl ([.ref h0, .int k1, .long k2, .int k3, .int k4])).length) Slot.unset).toArray = ls at hl ⊢
  have hl : lv_has ls 6 [(0, .ref h0), (1, .int k1), (2, .long k2), (4, .int k3), (5, .int k4)] := hl
  refine lv_aload_n hx hb dX5_init_0 rfl (lv_at hl 0 rfl) ?_
  refine W.objInit hx hb hown (hts _ (List.mem_cons_of_mem _ (List.mem_append_left _ (List.mem_of_getElem? (i := 0) rfl)))) (hts _ (List.mem_cons_of_mem _ (List.mem_append_left _ (List.mem_of_getElem? (i := 1) rfl)))) (hts _ (List.mem_cons_of_mem _ (List.mem_append_left _ (List.mem_of_getElem? (i := 2) rfl)))) rfl (by rw [hml]; exact hl.1) rfl dX5_init_1 (Nat.le_of_ble_eq_true rfl) (Nat.le_of_ble_eq_true rfl) ?_
  refine W.eq (g2 := F0 m 4 ls []) rfl ?_
  refine lv_aload_n hx hb dX5_init_4 rfl (lv_at hl 0 rfl) ?_
  refine lv_bipush (v := 6) hx hb dX5_init_5 (by decide) ?_
  refine va_newa (ty := .int) (N' := 6) (a0 := (6, .inl (fun _ => 0))) hx hb (hts _ (List.mem_cons_of_mem _ (List.mem_append_left _ (List.mem_of_getElem? (i := 3) rfl)))) rfl hK hP hD hS hA (fun _ => rfl) (by decide) (by decide) (by decide) (Nat.le_of_ble_eq_true rfl) (Nat.le_of_ble_eq_true rfl) dX5_init_7 (fun q1 cA1 H2 hK2 hP2 hD2 hS2 => ?_)
  refine W.widen (k := 1) (n := 6) (Nat.le_of_ble_eq_true rfl) (Nat.le_of_ble_eq_true rfl) ?_
  clear hP hD hS hK
  replace hK2 : va_K (dC, dI) vwCl [(cA1, .int)] s := hK2
  replace hP2 : va_P (dC, dI) vwCl [(h0, .inr (6, [.int 0, .long 0, .int 0, .null, .int 0, .int 0, .null])), (q1, .inl (cA1, (6, .inl (fun _ => 0))))] H2 := hP2
  replace hD2 : va_D A [(h0, .inr (6, [.int 0, .long 0, .int 0, .null, .int 0, .int 0, .null])), (q1, .inl (cA1, (6, .inl (fun _ => 0))))] := hD2
  refine va_putF (D := (dC, dI)) (ci := 6) (v := .ref q1) (ty := tyX5 3) (C := RX5) (T := TX5) (N := 7) hx hb hts (fun w h => List.mem_cons_of_mem _ (List.mem_append_right _ (List.mem_append_left _ h))) tyX5 tyX5_ok nmX5 hown hK2 hP2 hD2 hS2 0 rfl rfl 3 (by decide) (hts _ (List.mem_cons_of_mem _ (List.mem_append_left _ (List.mem_of_getElem? (i := 4) rfl)))) (fun _ h9 => h9) rfl hin rfl (tyX5_ok 3 (by decide)) rfl rfl (Nat.le_of_ble_eq_true rfl) dX5_init_9 (fun H3 lo3 hP3 hD3 hS3 => ?_)
  clear hP2 hD2 hS2 H2
  replace hP3 : va_P (dC, dI) vwCl [(h0, .inr (6, [.int 0, .long 0, .int 0, .ref q1, .int 0, .int 0, .null])), (q1, .inl (cA1, (6, .inl (fun _ => 0))))] H3 := hP3
  replace hD3 : va_D A [(h0, .inr (6, [.int 0, .long 0, .int 0, .ref q1, .int 0, .int 0, .null])), (q1, .inl (cA1, (6, .inl (fun _ => 0))))] := hD3
  refine lv_aload_n hx hb dX5_init_12 rfl (lv_at hl 0 rfl) ?_
  refine va_new (ci := 9) (fs := [.int 0, .int 0, .int 0, .null, .long 0, .null, .null, .null, .null, .null, .int 0, .null, .int 0, .int 0, .int 0, .long 0, .long 0, .long 0, .long 0, .int 0, .int 0]) (C := RX8) (T := TX8) (N := 21) hx hb hts (fun w h => List.mem_cons_of_mem _ (List.mem_append_right _ (List.mem_append_right _ (List.mem_append_left _ h)))) tyX8 tyX8_ok hown (hts _ (List.mem_cons_of_mem _ (List.mem_append_left _ (List.mem_of_getElem? (i := 5) rfl)))) (hts _ (List.mem_cons_of_mem _ (List.mem_append_left _ (List.mem_of_getElem? (i := 6) rfl)))) (hts _ (List.mem_cons_of_mem _ (List.mem_append_left _ (List.mem_of_getElem? (i := 7) rfl)))) hK2 hP3 hD3 hS3 hA rfl (fun j hj => by have : ∀ j, j < 21 → defaultValue (tyX8 j) = vp_V [.int 0, .int 0, .int 0, .null, .long 0, .null, .null, .null, .null, .null, .int 0, .null, .int 0, .int 0, .int 0, .long 0, .long 0, .long 0, .long 0, .int 0, .int 0] j := (by decide +kernel); exact this j hj) (Nat.le_of_ble_eq_true rfl) (Nat.le_of_ble_eq_true rfl) dX5_init_13 (fun q4 H5 hP5 hD5 hS5 => ?_)
  refine W.widen (k := 2) (n := 27) (Nat.le_of_ble_eq_true rfl) (Nat.le_of_ble_eq_true rfl) ?_
  clear hP3 hD3 hS3 H3
  replace hP5 : va_P (dC, dI) vwCl [(h0, .inr (6, [.int 0, .long 0, .int 0, .ref q1, .int 0, .int 0, .null])), (q1, .inl (cA1, (6, .inl (fun _ => 0)))), (q4, .inr (9, [.int 0, .int 0, .int 0, .null, .long 0, .null, .null, .null, .null, .null, .int 0, .null, .int 0, .int 0, .int 0, .long 0, .long 0, .long 0, .long 0, .int 0, .int 0]))] H5 := hP5
  replace hD5 : va_D A [(h0, .inr (6, [.int 0, .long 0, .int 0, .ref q1, .int 0, .int 0, .null])), (q1, .inl (cA1, (6, .inl (fun _ => 0)))), (q4, .inr (9, [.int 0, .int 0, .int 0, .null, .long 0, .null, .null, .null, .null, .null, .int 0, .null, .int 0, .int 0, .int 0, .long 0, .long 0, .long 0, .long 0, .int 0, .int 0]))] := hD5
  refine lv_dup hx hb dX5_init_16 rfl ?_
  refine lv_bipush (v := 92) hx hb dX5_init_17 (by decide) ?_
  refine lv_iconst (v := 0) hx hb dX5_init_19 (by decide) ?_
  refine lv_iconst (v := 0) hx hb dX5_init_20 (by decide) ?_
  refine lv_null hx hb dX5_init_21 ?_
  refine lv_lconst (v := 0) hx hb dX5_init_22 (by decide) ?_
  have hPc6 := hP5.sub (ws' := [(q4, .inr (9, [.int 0, .int 0, .int 0, .null, .long 0, .null, .null, .null, .null, .null, .int 0, .null, .int 0, .int 0, .int 0, .long 0, .long 0, .long 0, .long 0, .int 0, .int 0]))]) [2] rfl
  have hDc6 := hD5.sub (ws' := [(q4, .inr (9, [.int 0, .int 0, .int 0, .null, .long 0, .null, .null, .null, .null, .null, .int 0, .null, .int 0, .int 0, .int 0, .long 0, .long 0, .long 0, .long 0, .int 0, .int 0]))]) [2] (by decide) rfl
  have hKc6 := hK2.sub (tys' := []) [] rfl
  have hFc6 := va_free (wc := [(q4, .inr (9, [.int 0, .int 0, .int 0, .null, .long 0, .null, .null, .null, .null, .null, .int 0, .null, .int 0, .int 0, .int 0, .long 0, .long 0, .long 0, .long 0, .int 0, .int 0]))]) hD5 hS5 hA [2] rfl
  refine va_callv (va_runI (As := [.int 92, .int 0, .int 0, .null, .long 0]) (rest := [.ref q4, .ref h0]) ⟨hx, hb, hml, hown, hts⟩ (c_X8_init l dC dI (q4) (92) (0) (0) (0) H5.size) (cwI 5 hts (goodIn_sub (fun w h => List.mem_cons_of_mem _ (List.mem_append_right _ (List.mem_append_right _ (List.mem_append_right _ h)))) (by decide +kernel)) rfl rfl rfl (hts _ (List.mem_cons_of_mem _ (List.mem_append_left _ (List.mem_of_getElem? (i := 7) rfl)))) (hts _ (List.mem_cons_of_mem _ (List.mem_append_left _ (List.mem_of_getElem? (i := 8) rfl)))) (hts _ (List.mem_cons_of_mem _ (List.mem_append_left _ (List.mem_of_getElem? (i := 9) rfl)))) rfl (by decide +kernel) ⟨Nat.le_of_ble_eq_true rfl, Nat.le_of_ble_eq_true rfl⟩) ⟨fun a U g mk q => by obtain ⟨q0, q1, qP, qK, qD⟩ := q; exact ⟨q0, q1, qP, va_K.moved (u := U) (U := U.calling g mk a) (Vm.Alike.refl U.vm) qK, qD⟩, fun U hU hW => ⟨rfl, by rw [hU], by rw [hU]; exact hPc6, va_K.moved hW.alike hKc6, hDc6.weaken (fun _ _ _ _ => trivial)⟩⟩ rfl rfl hl.1 rfl (lv_room (Nat.le_of_ble_eq_true rfl)) dX5_init_23 ⟨Nat.le_of_ble_eq_true rfl, Nat.le_of_ble_eq_true rfl⟩) hS5 (fun q _ h => hFc6 q h) hFc6 (fun u7 t7 H7 lo7 ht7 hvm7 hw7 hB7 hz7 hk7 hS7 => ?_)
  obtain ⟨hP1_7, hK1_7, hD1_7⟩ := hB7
  rw [ht7] at hP1_7
  replace hK1_7 := va_K.moved hvm7.symm hK1_7
  obtain ⟨hP7, hD7⟩ := va_join (wr := [(h0, .inr (6, [.int 0, .long 0, .int 0, .ref q1, .int 0, .int 0, .null])), (q1, .inl (cA1, (6, .inl (fun _ => 0))))]) (w1 := [(q4, .inr (9, [.int 92, .int 0, .int 0, .null, .long 0, .null, .null, .null, .null, .null, .int (-1), .null, .int 0, .int 0, .int 0, .long 0, .long 0, .long (-1), .long (-1), .int 0, .int 0]))]) hP5 hD5 [2] [0, 1] rfl rfl (by decide) (by decide) hk7 hFc6 hP1_7 hD1_7
  have hK7 := (hK2.sub (tys' := [(cA1, .int)]) [0] rfl).app hK1_7
  replace hK7 : va_K (dC, dI) vwCl [(cA1, .int)] s := hK7
  replace hP7 : va_P (dC, dI) vwCl [(h0, .inr (6, [.int 0, .long 0, .int 0, .ref q1, .int 0, .int 0, .null])), (q1, .inl (cA1, (6, .inl (fun _ => 0)))), (q4, .inr (9, [.int 92, .int 0, .int 0, .null, .long 0, .null, .null, .null, .null, .null, .int (-1), .null, .int 0, .int 0, .int 0, .long 0, .long 0, .long (-1), .long (-1), .int 0, .int 0]))] H7 := hP7
  replace hD7 : va_D A [(h0, .inr (6, [.int 0, .long 0, .int 0, .ref q1, .int 0, .int 0, .null])), (q1, .inl (cA1, (6, .inl (fun _ => 0)))), (q4, .inr (9, [.int 92, .int 0, .int 0, .null, .long 0, .null, .null, .null, .null, .null, .int (-1), .null, .int 0, .int 0, .int 0, .long 0, .long 0, .long (-1), .long (-1), .int 0, .int 0]))] := hD7
  clear hP1_7 hD1_7 hK1_7 hk7 hFc6 hPc6 hDc6 hKc6 hz7 ht7 hvm7 hP5 hD5 hS5 hK2 H5
  clear lo3
  refine W.widen (k := 2) (n := 27) (Nat.le_of_ble_eq_true rfl) (Nat.le_of_ble_eq_true rfl) ?_
  refine va_put (D := (dC, dI)) (ci := 6) (v := .ref q4) (ty := tyX5 6) (C := RX5) (T := TX5) (N := 7) hx hb hts (fun w h => List.mem_cons_of_mem _ (List.mem_append_right _ (List.mem_append_left _ h))) tyX5 tyX5_ok nmX5 hown hK7 hP7 hD7 hS7 0 rfl rfl 6 (by decide) (hts _ (List.mem_cons_of_mem _ (List.mem_append_left _ (List.mem_of_getElem? (i := 10) rfl)))) (fun _ h9 => h9) rfl (tyX5_ok 6 (by decide)) rfl rfl (Nat.le_of_ble_eq_true rfl) dX5_init_26 (fun H8 lo8 hP8 hD8 hS8 => ?_)
  clear hP7 hD7 hS7 H7 lo7
  replace hP8 : va_P (dC, dI) vwCl [(h0, .inr (6, [.int 0, .long 0, .int 0, .ref q1, .int 0, .int 0, .ref q4])), (q1, .inl (cA1, (6, .inl (fun _ => 0)))), (q4, .inr (9, [.int 92, .int 0, .int 0, .null, .long 0, .null, .null, .null, .null, .null, .int (-1), .null, .int 0, .int 0, .int 0, .long 0, .long 0, .long (-1), .long (-1), .int 0, .int 0]))] H8 := hP8
  replace hD8 : va_D A [(h0, .inr (6, [.int 0, .long 0, .int 0, .ref q1, .int 0, .int 0, .ref q4])), (q1, .inl (cA1, (6, .inl (fun _ => 0)))), (q4, .inr (9, [.int 92, .int 0, .int 0, .null, .long 0, .null, .null, .null, .null, .null, .int (-1), .null, .int 0, .int 0, .int 0, .long 0, .long 0, .long (-1), .long (-1), .int 0, .int 0]))] := hD8
  refine lv_aload_n hx hb dX5_init_29 rfl (lv_at hl 0 rfl) ?_
  refine lv_iload_n hx hb dX5_init_30 rfl (lv_at hl 1 rfl) ?_
  refine va_putF (D := (dC, dI)) (ci := 6) (v := .int k1) (ty := tyX5 0) (C := RX5) (T := TX5) (N := 7) hx hb hts (fun w h => List.mem_cons_of_mem _ (List.mem_append_right _ (List.mem_append_left _ h))) tyX5 tyX5_ok nmX5 hown hK7 hP8 hD8 hS8 0 rfl rfl 0 (by decide) (hts _ (List.mem_cons_of_mem _ (List.mem_append_left _ (List.mem_of_getElem? (i := 11) rfl)))) (fun _ h9 => h9) rfl hin rfl (tyX5_ok 0 (by decide)) rfl rfl (Nat.le_of_ble_eq_true rfl) dX5_init_31 (fun H9 lo9 hP9 hD9 hS9 => ?_)
  clear hP8 hD8 hS8 H8 lo8
  replace hP9 : va_P (dC, dI) vwCl [(h0, .inr (6, [.int k1, .long 0, .int 0, .ref q1, .int 0, .int 0, .ref q4])), (q1, .inl (cA1, (6, .inl (fun _ => 0)))), (q4, .inr (9, [.int 92, .int 0, .int 0, .null, .long 0, .null, .null, .null, .null, .null, .int (-1), .null, .int 0, .int 0, .int 0, .long 0, .long 0, .long (-1), .long (-1), .int 0, .int 0]))] H9 := hP9
  replace hD9 : va_D A [(h0, .inr (6, [.int k1, .long 0, .int 0, .ref q1, .int 0, .int 0, .ref q4])), (q1, .inl (cA1, (6, .inl (fun _ => 0)))), (q4, .inr (9, [.int 92, .int 0, .int 0, .null, .long 0, .null, .null, .null, .null, .null, .int (-1), .null, .int 0, .int 0, .int 0, .long 0, .long 0, .long (-1), .long (-1), .int 0, .int 0]))] := hD9
  refine lv_aload_n hx hb dX5_init_34 rfl (lv_at hl 0 rfl) ?_
  refine lv_lload_n hx hb dX5_init_35 rfl (lv_at hl 2 rfl) ?_
  refine va_putF (D := (dC, dI)) (ci := 6) (v := .long k2) (ty := tyX5 1) (C := RX5) (T := TX5) (N := 7) hx hb hts (fun w h => List.mem_cons_of_mem _ (List.mem_append_right _ (List.mem_append_left _ h))) tyX5 tyX5_ok nmX5 hown hK7 hP9 hD9 hS9 0 rfl rfl 1 (by decide) (hts _ (List.mem_cons_of_mem _ (List.mem_append_left _ (List.mem_of_getElem? (i := 12) rfl)))) (fun _ h9 => h9) rfl hin rfl (tyX5_ok 1 (by decide)) rfl rfl (Nat.le_of_ble_eq_true rfl) dX5_init_36 (fun H10 lo10 hP10 hD10 hS10 => ?_)
  clear hP9 hD9 hS9 H9 lo9
  replace hP10 : va_P (dC, dI) vwCl [(h0, .inr (6, [.int k1, .long k2, .int 0, .ref q1, .int 0, .int 0, .ref q4])), (q1, .inl (cA1, (6, .inl (fun _ => 0)))), (q4, .inr (9, [.int 92, .int 0, .int 0, .null, .long 0, .null, .null, .null, .null, .null, .int (-1), .null, .int 0, .int 0, .int 0, .long 0, .long 0, .long (-1), .long (-1), .int 0, .int 0]))] H10 := hP10
  replace hD10 : va_D A [(h0, .inr (6, [.int k1, .long k2, .int 0, .ref q1, .int 0, .int 0, .ref q4])), (q1, .inl (cA1, (6, .inl (fun _ => 0)))), (q4, .inr (9, [.int 92, .int 0, .int 0, .null, .long 0, .null, .null, .null, .null, .null, .int (-1), .null, .int 0, .int 0, .int 0, .long 0, .long 0, .long (-1), .long (-1), .int 0, .int 0]))] := hD10
  refine lv_aload_n hx hb dX5_init_39 rfl (lv_at hl 0 rfl) ?_
  refine lv_iload hx hb dX5_init_40 (lv_at hl 3 rfl) ?_
  refine va_putF (D := (dC, dI)) (ci := 6) (v := .int k3) (ty := tyX5 2) (C := RX5) (T := TX5) (N := 7) hx hb hts (fun w h => List.mem_cons_of_mem _ (List.mem_append_right _ (List.mem_append_left _ h))) tyX5 tyX5_ok nmX5 hown hK7 hP10 hD10 hS10 0 rfl rfl 2 (by decide) (hts _ (List.mem_cons_of_mem _ (List.mem_append_left _ (List.mem_of_getElem? (i := 13) rfl)))) (fun _ h9 => h9) rfl hin rfl (tyX5_ok 2 (by decide)) rfl rfl (Nat.le_of_ble_eq_true rfl) dX5_init_42 (fun H11 lo11 hP11 hD11 hS11 => ?_)
  clear hP10 hD10 hS10 H10 lo10
  replace hP11 : va_P (dC, dI) vwCl [(h0, .inr (6, [.int k1, .long k2, .int k3, .ref q1, .int 0, .int 0, .ref q4])), (q1, .inl (cA1, (6, .inl (fun _ => 0)))), (q4, .inr (9, [.int 92, .int 0, .int 0, .null, .long 0, .null, .null, .null, .null, .null, .int (-1), .null, .int 0, .int 0, .int 0, .long 0, .long 0, .long (-1), .long (-1), .int 0, .int 0]))] H11 := hP11
  replace hD11 : va_D A [(h0, .inr (6, [.int k1, .long k2, .int k3, .ref q1, .int 0, .int 0, .ref q4])), (q1, .inl (cA1, (6, .inl (fun _ => 0)))), (q4, .inr (9, [.int 92, .int 0, .int 0, .null, .long 0, .null, .null, .null, .null, .null, .int (-1), .null, .int 0, .int 0, .int 0, .long 0, .long 0, .long (-1), .long (-1), .int 0, .int 0]))] := hD11
  refine lv_aload_n hx hb dX5_init_45 rfl (lv_at hl 0 rfl) ?_
  refine lv_iload hx hb dX5_init_46 (lv_at hl 4 rfl) ?_
  refine va_putF (D := (dC, dI)) (ci := 6) (v := .int k4) (ty := tyX5 4) (C := RX5) (T := TX5) (N := 7) hx hb hts (fun w h => List.mem_cons_of_mem _ (List.mem_append_right _ (List.mem_append_left _ h))) tyX5 tyX5_ok nmX5 hown hK7 hP11 hD11 hS11 0 rfl rfl 4 (by decide) (hts _ (List.mem_cons_of_mem _ (List.mem_append_left _ (List.mem_of_getElem? (i := 14) rfl)))) (fun _ h9 => h9) rfl hin rfl (tyX5_ok 4 (by decide)) rfl rfl (Nat.le_of_ble_eq_true rfl) dX5_init_48 (fun H12 lo12 hP12 hD12 hS12 => ?_)
  clear hP11 hD11 hS11 H11 lo11
  replace hP12 : va_P (dC, dI) vwCl [(h0, .inr (6, [.int k1, .long k2, .int k3, .ref q1, .int k4, .int 0, .ref q4])), (q1, .inl (cA1, (6, .inl (fun _ => 0)))), (q4, .inr (9, [.int 92, .int 0, .int 0, .null, .long 0, .null, .null, .null, .null, .null, .int (-1), .null, .int 0, .int 0, .int 0, .long 0, .long 0, .long (-1), .long (-1), .int 0, .int 0]))] H12 := hP12
  replace hD12 : va_D A [(h0, .inr (6, [.int k1, .long k2, .int k3, .ref q1, .int k4, .int 0, .ref q4])), (q1, .inl (cA1, (6, .inl (fun _ => 0)))), (q4, .inr (9, [.int 92, .int 0, .int 0, .null, .long 0, .null, .null, .null, .null, .null, .int (-1), .null, .int 0, .int 0, .int 0, .long 0, .long 0, .long (-1), .long (-1), .int 0, .int 0]))] := hD12
  exact W.vret hx hb hr (fun t ht hW => ⟨⟨(), rfl, trivial, q1, cA1, q4, by rw [ht]; exact hP12, va_K.moved hW.alike hK7, hD12⟩, hS12.F ht⟩) hS12.2.2 dX5_init_51
set_option maxRecDepth 20000 in
def ww_X7_init : List Cond := .code yX7_init cX7_init 2 none :: ([Cond.methodLink RX7 3 objectInit, Cond.instanceMethod objectInit, Cond.code objectInit ⟨#[0xb1]⟩ 1 none, Cond.fieldLink RX7 9 "PlainJava$Reader" "program" "LPlainJava$Program;", Cond.fieldLink RX7 15 "PlainJava$Program" "tokens" "LPlainJava$Tokens;", Cond.fieldLink RX7 21 "PlainJava$Reader" "tokens" "LPlainJava$Tokens;"] ++ (wsX70 ++ (wsX60)))
set_option maxHeartbeats 40000000 in
set_option maxRecDepth 100000 in
/-- Reader(program) -/
theorem c_X7_init (l : Launch) (dC : Nat → ClassId) (dI : Nat → Nat → Nat) (h0 : Nat) (h1 : Nat) (h2 : Nat) (v1 : Value) (v2 : Value) (v3 : Value) (v4 : Value) (v5 : Value) (v6 : Value) (v7 : Value) (v8 : Value) (sz : Nat) : Met l yX7_init ww_X7_init ({ frames := 1, cells := 0, slots := 0, locals := 100 }) (va_Pc [.ref h0, .ref h1] (fun U => U.heap.size = sz ∧ va_P (dC, dI) vwCl [(h0, .inr (8, [.null, .null, .int 0, .int 0, .int 0, .long 0, .null])), (h1, .inr (7, [.ref h2, v1, v2, v3, v4, v5, v6, v7, v8]))] U.heap ∧ va_K (dC, dI) vwCl [] U ∧ va_D (fun _ => True) [(h0, .inr (8, [.null, .null, .int 0, .int 0, .int 0, .long 0, .null])), (h1, .inr (7, [.ref h2, v1, v2, v3, v4, v5, v6, v7, v8]))])) (va_Qv (fun _ : Unit => True) (fun (_ : Unit) (t : State) => va_P (dC, dI) vwCl [(h0, .inr (8, [.ref h1, .ref h2, .int 0, .int 0, .int 0, .long 0, .null])), (h1, .inr (7, [.ref h2, v1, v2, v3, v4, v5, v6, v7, v8]))] t.heap ∧ va_K (dC, dI) vwCl [] t ∧ va_D (va_A [(h0, .inr (8, [.null, .null, .int 0, .int 0, .int 0, .long 0, .null])), (h1, .inr (7, [.ref h2, v1, v2, v3, v4, v5, v6, v7, v8]))] sz) [(h0, .inr (8, [.ref h1, .ref h2, .int 0, .int 0, .int 0, .long 0, .null])), (h1, .inr (7, [.ref h2, v1, v2, v3, v4, v5, v6, v7, v8]))]) (va_A [(h0, .inr (8, [.null, .null, .int 0, .int 0, .int 0, .long 0, .null])), (h1, .inr (7, [.ref h2, v1, v2, v3, v4, v5, v6, v7, v8]))] sz)) 0 0 (va_A [(h0, .inr (8, [.null, .null, .int 0, .int 0, .int 0, .long 0, .null])), (h1, .inr (7, [.ref h2, v1, v2, v3, v4, v5, v6, v7, v8]))] sz) := by
  refine Met.ofW (cc := cX7_init) (maxL := 2) (ret := none) (by decide) rfl ?_
  intro p e s m args below meth c s₁ B hml hv
  obtain ⟨rfl, hsz, hP, hK, hD0⟩ := hv
  have hx := B.exec
  have hb := B.bytes
  have hr := B.returns
  have hts := atoms_spec (ws := ww_X7_init) B.pre
  have hown : s.vm.findClass RX7 = some m.cls := findClass_of_methodNamed B.named
  have hlocks := B.notSynchronized
  have hin : meth.name = "<init>" := (name_of_methodNamed B.named B.method).1
  subst hsz
  have hD := hD0.self (sz := s.heap.size)
  generalize hAe : va_A [(h0, .inr (8, [.null, .null, .int 0, .int 0, .int 0, .long 0, .null])), (h1, .inr (7, [.ref h2, v1, v2, v3, v4, v5, v6, v7, v8]))] s.heap.size = A at hD ⊢
  have hA : ∀ q : Nat, s.heap.size ≤ q → A q := fun q h => by rw [← hAe]; exact Or.inr h
  have hS : va_S A s.heap s.heap [] := va_S.rf
  have hP : va_P (dC, dI) vwCl [(h0, .inr (8, [.null, .null, .int 0, .int 0, .int 0, .long 0, .null])), (h1, .inr (7, [.ref h2, v1, v2, v3, v4, v5, v6, v7, v8]))] s.heap := hP
  have hl := lv_entry ([.ref h0, .ref h1]) (n := 2) (Nat.le_of_ble_eq_true rfl)
  rw [lg_entry_eq]
  generalize (lg_sl ([.ref h0, .ref h1]) ++ List.replicate (2 - (lg_sl ([.ref h0, .ref h1])).length) Slot.unset).toArray = ls at hl ⊢
  have hl : lv_has ls 2 [(0, .ref h0), (1, .ref h1)] := hl
  refine lv_aload_n hx hb dX7_init_0 rfl (lv_at hl 0 rfl) ?_
  refine W.objInit hx hb hown (hts _ (List.mem_cons_of_mem _ (List.mem_append_left _ (List.mem_of_getElem? (i := 0) rfl)))) (hts _ (List.mem_cons_of_mem _ (List.mem_append_left _ (List.mem_of_getElem? (i := 1) rfl)))) (hts _ (List.mem_cons_of_mem _ (List.mem_append_left _ (List.mem_of_getElem? (i := 2) rfl)))) rfl (by rw [hml]; exact hl.1) rfl dX7_init_1 (Nat.le_of_ble_eq_true rfl) (Nat.le_of_ble_eq_true rfl) ?_
  refine W.eq (g2 := F0 m 4 ls []) rfl ?_
  refine lv_aload_n hx hb dX7_init_4 rfl (lv_at hl 0 rfl) ?_
  refine lv_aload_n hx hb dX7_init_5 rfl (lv_at hl 1 rfl) ?_
  refine va_put (D := (dC, dI)) (ci := 8) (v := .ref h1) (ty := tyX7 0) (C := RX7) (T := TX7) (N := 7) hx hb hts (fun w h => List.mem_cons_of_mem _ (List.mem_append_right _ (List.mem_append_left _ h))) tyX7 tyX7_ok nmX7 hown hK hP hD hS 0 rfl rfl 0 (by decide) (hts _ (List.mem_cons_of_mem _ (List.mem_append_left _ (List.mem_of_getElem? (i := 3) rfl)))) (fun _ h9 => h9) rfl (tyX7_ok 0 (by decide)) rfl rfl (Nat.le_of_ble_eq_true rfl) dX7_init_6 (fun H1 lo1 hP1 hD1 hS1 => ?_)
  clear hP hD hS
  replace hP1 : va_P (dC, dI) vwCl [(h0, .inr (8, [.ref h1, .null, .int 0, .int 0, .int 0, .long 0, .null])), (h1, .inr (7, [.ref h2, v1, v2, v3, v4, v5, v6, v7, v8]))] H1 := hP1
  replace hD1 : va_D A [(h0, .inr (8, [.ref h1, .null, .int 0, .int 0, .int 0, .long 0, .null])), (h1, .inr (7, [.ref h2, v1, v2, v3, v4, v5, v6, v7, v8]))] := hD1
  refine lv_aload_n hx hb dX7_init_9 rfl (lv_at hl 0 rfl) ?_
  refine lv_aload_n hx hb dX7_init_10 rfl (lv_at hl 1 rfl) ?_
  refine va_get (D := (dC, dI)) (ci := 7) (v := .ref h2) (C := RX6) (T := TX6) (N := 9) hx hb hts (fun w h => List.mem_cons_of_mem _ (List.mem_append_right _ (List.mem_append_right _ h))) hown hK hP1 1 rfl rfl 0 (by decide) (hts _ (List.mem_cons_of_mem _ (List.mem_append_left _ (List.mem_of_getElem? (i := 4) rfl)))) (fun _ h9 => h9) rfl dX7_init_11 ?_
  refine va_put (D := (dC, dI)) (ci := 8) (v := .ref h2) (ty := tyX7 1) (C := RX7) (T := TX7) (N := 7) hx hb hts (fun w h => List.mem_cons_of_mem _ (List.mem_append_right _ (List.mem_append_left _ h))) tyX7 tyX7_ok nmX7 hown hK hP1 hD1 hS1 0 rfl rfl 1 (by decide) (hts _ (List.mem_cons_of_mem _ (List.mem_append_left _ (List.mem_of_getElem? (i := 5) rfl)))) (fun _ h9 => h9) rfl (tyX7_ok 1 (by decide)) rfl rfl (Nat.le_of_ble_eq_true rfl) dX7_init_14 (fun H2 lo2 hP2 hD2 hS2 => ?_)
  clear hP1 hD1 hS1 H1 lo1
  replace hP2 : va_P (dC, dI) vwCl [(h0, .inr (8, [.ref h1, .ref h2, .int 0, .int 0, .int 0, .long 0, .null])), (h1, .inr (7, [.ref h2, v1, v2, v3, v4, v5, v6, v7, v8]))] H2 := hP2
  replace hD2 : va_D A [(h0, .inr (8, [.ref h1, .ref h2, .int 0, .int 0, .int 0, .long 0, .null])), (h1, .inr (7, [.ref h2, v1, v2, v3, v4, v5, v6, v7, v8]))] := hD2
  exact W.vret hx hb hr (fun t ht hW => ⟨⟨(), rfl, trivial, by rw [ht]; exact hP2, va_K.moved hW.alike hK, hD2⟩, hS2.F ht⟩) hS2.2.2 dX7_init_17
set_option maxRecDepth 20000 in
def ww_X2_init : List Cond := .code yX2_init cX2_init 2 none :: ([Cond.methodLink RX2 3 objectInit, Cond.instanceMethod objectInit, Cond.code objectInit ⟨#[0xb1]⟩ 1 none, Cond.arrayClass .long, Cond.fieldLink RX2 9 "PlainJava$Flow" "aside" "[J", Cond.fieldLink RX2 15 "PlainJava$Flow" "program" "LPlainJava$Program;"] ++ (wsX20))
set_option maxHeartbeats 40000000 in
set_option maxRecDepth 100000 in
/-- Flow(program) -/
theorem c_X2_init (l : Launch) (dC : Nat → ClassId) (dI : Nat → Nat → Nat) (h0 : Nat) (h1 : Nat) (sz : Nat) : Met l yX2_init ww_X2_init ({ frames := 1, cells := 1, slots := 500, locals := 100 }) (va_Pc [.ref h0, .ref h1] (fun U => U.heap.size = sz ∧ va_P (dC, dI) vwCl [(h0, .inr (3, [.null, .long 0, .long 0, .null, .int 0]))] U.heap ∧ va_K (dC, dI) vwCl [] U ∧ va_D (fun _ => True) [(h0, .inr (3, [.null, .long 0, .long 0, .null, .int 0]))])) (va_Qv (fun _ : Unit => True) (fun (_ : Unit) (t : State) => ∃ (q1 : Nat) (cA1 : ClassId), va_P (dC, dI) vwCl [(h0, .inr (3, [.ref h1, .long 0, .long 0, .ref q1, .int 0])), (q1, .inl (cA1, (500, .inr (.inl (fun _ => 0)))))] t.heap ∧ va_K (dC, dI) vwCl [(cA1, .long)] t ∧ va_D (va_A [(h0, .inr (3, [.null, .long 0, .long 0, .null, .int 0]))] sz) [(h0, .inr (3, [.ref h1, .long 0, .long 0, .ref q1, .int 0])), (q1, .inl (cA1, (500, .inr (.inl (fun _ => 0)))))]) (va_A [(h0, .inr (3, [.null, .long 0, .long 0, .null, .int 0]))] sz)) 1 500 (va_A [(h0, .inr (3, [.null, .long 0, .long 0, .null, .int 0]))] sz) := by
  refine Met.ofW (cc := cX2_init) (maxL := 2) (ret := none) (by decide) rfl ?_
  intro p e s m args below meth c s₁ B hml hv
  obtain ⟨rfl, hsz, hP, hK, hD0⟩ := hv
  have hx := B.exec
  have hb := B.bytes
  have hr := B.returns
  have hts := atoms_spec (ws := ww_X2_init) B.pre
  have hown : s.vm.findClass RX2 = some m.cls := findClass_of_methodNamed B.named
  have hlocks := B.notSynchronized
  have hin : meth.name = "<init>" := (name_of_methodNamed B.named B.method).1
  subst hsz
  have hD := hD0.self (sz := s.heap.size)
  generalize hAe : va_A [(h0, .inr (3, [.null, .long 0, .long 0, .null, .int 0]))] s.heap.size = A at hD ⊢
  have hA : ∀ q : Nat, s.heap.size ≤ q → A q := fun q h => by rw [← hAe]; exact Or.inr h
  have hS : va_S A s.heap s.heap [] := va_S.rf
  have hP : va_P (dC, dI) vwCl [(h0, .inr (3, [.null, .long 0, .long 0, .null, .int 0]))] s.heap := hP
  have hl := lv_entry ([.ref h0, .ref h1]) (n := 2) (Nat.le_of_ble_eq_true rfl)
  rw [lg_entry_eq]
  generalize (lg_sl ([.ref h0, .ref h1]) ++ List.replicate (2 - (lg_sl ([.ref h0, .ref h1])).length) Slot.unset).toArray = ls at hl ⊢
  have hl : lv_has ls 2 [(0, .ref h0), (1, .ref h1)] := hl
  refine lv_aload_n hx hb dX2_init_0 rfl (lv_at hl 0 rfl) ?_
  refine W.objInit hx hb hown (hts _ (List.mem_cons_of_mem _ (List.mem_append_left _ (List.mem_of_getElem? (i := 0) rfl)))) (hts _ (List.mem_cons_of_mem _ (List.mem_append_left _ (List.mem_of_getElem? (i := 1) rfl)))) (hts _ (List.mem_cons_of_mem _ (List.mem_append_left _ (List.mem_of_getElem? (i := 2) rfl)))) rfl (by rw [hml]; exact hl.1) rfl dX2_init_1 (Nat.le_of_ble_eq_true rfl) (Nat.le_of_ble_eq_true rfl) ?_
  refine W.eq (g2 := F0 m 4 ls []) rfl ?_
  refine lv_aload_n hx hb dX2_init_4 rfl (lv_at hl 0 rfl) ?_
  refine lv_sipush (v := 500) hx hb dX2_init_5 (by decide) ?_
  refine va_newa (ty := .long) (N' := 500) (a0 := (500, .inr (.inl (fun _ => 0)))) hx hb (hts _ (List.mem_cons_of_mem _ (List.mem_append_left _ (List.mem_of_getElem? (i := 3) rfl)))) rfl hK hP hD hS hA (fun _ => rfl) (by decide) (by decide) (by decide) (Nat.le_of_ble_eq_true rfl) (Nat.le_of_ble_eq_true rfl) dX2_init_8 (fun q1 cA1 H2 hK2 hP2 hD2 hS2 => ?_)
  refine W.widen (k := 1) (n := 500) (Nat.le_of_ble_eq_true rfl) (Nat.le_of_ble_eq_true rfl) ?_
  clear hP hD hS hK
  replace hK2 : va_K (dC, dI) vwCl [(cA1, .long)] s := hK2
  replace hP2 : va_P (dC, dI) vwCl [(h0, .inr (3, [.null, .long 0, .long 0, .null, .int 0])), (q1, .inl (cA1, (500, .inr (.inl (fun _ => 0)))))] H2 := hP2
  replace hD2 : va_D A [(h0, .inr (3, [.null, .long 0, .long 0, .null, .int 0])), (q1, .inl (cA1, (500, .inr (.inl (fun _ => 0)))))] := hD2
  refine va_putF (D := (dC, dI)) (ci := 3) (v := .ref q1) (ty := tyX2 3) (C := RX2) (T := TX2) (N := 5) hx hb hts (fun w h => List.mem_cons_of_mem _ (List.mem_append_right _ h)) tyX2 tyX2_ok nmX2 hown hK2 hP2 hD2 hS2 0 rfl rfl 3 (by decide) (hts _ (List.mem_cons_of_mem _ (List.mem_append_left _ (List.mem_of_getElem? (i := 4) rfl)))) (fun _ h9 => h9) rfl hin rfl (tyX2_ok 3 (by decide)) rfl rfl (Nat.le_of_ble_eq_true rfl) dX2_init_10 (fun H3 lo3 hP3 hD3 hS3 => ?_)
  clear hP2 hD2 hS2 H2
  replace hP3 : va_P (dC, dI) vwCl [(h0, .inr (3, [.null, .long 0, .long 0, .ref q1, .int 0])), (q1, .inl (cA1, (500, .inr (.inl (fun _ => 0)))))] H3 := hP3
  replace hD3 : va_D A [(h0, .inr (3, [.null, .long 0, .long 0, .ref q1, .int 0])), (q1, .inl (cA1, (500, .inr (.inl (fun _ => 0)))))] := hD3
  refine lv_aload_n hx hb dX2_init_13 rfl (lv_at hl 0 rfl) ?_
  refine lv_aload_n hx hb dX2_init_14 rfl (lv_at hl 1 rfl) ?_
  refine va_put (D := (dC, dI)) (ci := 3) (v := .ref h1) (ty := tyX2 0) (C := RX2) (T := TX2) (N := 5) hx hb hts (fun w h => List.mem_cons_of_mem _ (List.mem_append_right _ h)) tyX2 tyX2_ok nmX2 hown hK2 hP3 hD3 hS3 0 rfl rfl 0 (by decide) (hts _ (List.mem_cons_of_mem _ (List.mem_append_left _ (List.mem_of_getElem? (i := 5) rfl)))) (fun _ h9 => h9) rfl (tyX2_ok 0 (by decide)) rfl rfl (Nat.le_of_ble_eq_true rfl) dX2_init_15 (fun H4 lo4 hP4 hD4 hS4 => ?_)
  clear hP3 hD3 hS3 H3 lo3
  replace hP4 : va_P (dC, dI) vwCl [(h0, .inr (3, [.ref h1, .long 0, .long 0, .ref q1, .int 0])), (q1, .inl (cA1, (500, .inr (.inl (fun _ => 0)))))] H4 := hP4
  replace hD4 : va_D A [(h0, .inr (3, [.ref h1, .long 0, .long 0, .ref q1, .int 0])), (q1, .inl (cA1, (500, .inr (.inl (fun _ => 0)))))] := hD4
  exact W.vret hx hb hr (fun t ht hW => ⟨⟨(), rfl, trivial, q1, cA1, by rw [ht]; exact hP4, va_K.moved hW.alike hK2, hD4⟩, hS4.F ht⟩) hS4.2.2 dX2_init_18
set_option maxRecDepth 20000 in
def ww_X3_init : List Cond := .code yX3_init cX3_init 2 none :: ([Cond.methodLink RX3 3 objectInit, Cond.instanceMethod objectInit, Cond.code objectInit ⟨#[0xb1]⟩ 1 none, Cond.fieldLink RX3 9 "PlainJava$Judge" "program" "LPlainJava$Program;", Cond.classLink RX3 15 RX2, Cond.instantiable RX2 5, Cond.initialized RX2, Cond.methodLink RX3 17 yX2_init, Cond.instanceMethod yX2_init, Cond.fieldLink RX3 20 "PlainJava$Judge" "flow" "LPlainJava$Flow;"] ++ (wsX30 ++ (wsX20 ++ (ww_X2_init))))
set_option maxHeartbeats 40000000 in
set_option maxRecDepth 100000 in
/-- Judge(program) -/
theorem c_X3_init (l : Launch) (dC : Nat → ClassId) (dI : Nat → Nat → Nat) (h0 : Nat) (h1 : Nat) (sz : Nat) : Met l yX3_init ww_X3_init ({ frames := 2, cells := 2, slots := 505, locals := 200 }) (va_Pc [.ref h0, .ref h1] (fun U => U.heap.size = sz ∧ va_P (dC, dI) vwCl [(h0, .inr (4, [.null, .null]))] U.heap ∧ va_K (dC, dI) vwCl [] U ∧ va_D (fun _ => True) [(h0, .inr (4, [.null, .null]))])) (va_Qv (fun _ : Unit => True) (fun (_ : Unit) (t : State) => ∃ (q2 : Nat) (q1_5 : Nat) (cA1_5 : ClassId), va_P (dC, dI) vwCl [(h0, .inr (4, [.ref q2, .ref h1])), (q2, .inr (3, [.ref h1, .long 0, .long 0, .ref q1_5, .int 0])), (q1_5, .inl (cA1_5, (500, .inr (.inl (fun _ => 0)))))] t.heap ∧ va_K (dC, dI) vwCl [(cA1_5, .long)] t ∧ va_D (va_A [(h0, .inr (4, [.null, .null]))] sz) [(h0, .inr (4, [.ref q2, .ref h1])), (q2, .inr (3, [.ref h1, .long 0, .long 0, .ref q1_5, .int 0])), (q1_5, .inl (cA1_5, (500, .inr (.inl (fun _ => 0)))))]) (va_A [(h0, .inr (4, [.null, .null]))] sz)) 2 505 (va_A [(h0, .inr (4, [.null, .null]))] sz) := by
  refine Met.ofW (cc := cX3_init) (maxL := 2) (ret := none) (by decide) rfl ?_
  intro p e s m args below meth c s₁ B hml hv
  obtain ⟨rfl, hsz, hP, hK, hD0⟩ := hv
  have hx := B.exec
  have hb := B.bytes
  have hr := B.returns
  have hts := atoms_spec (ws := ww_X3_init) B.pre
  have hown : s.vm.findClass RX3 = some m.cls := findClass_of_methodNamed B.named
  have hlocks := B.notSynchronized
  have hin : meth.name = "<init>" := (name_of_methodNamed B.named B.method).1
  subst hsz
  have hD := hD0.self (sz := s.heap.size)
  generalize hAe : va_A [(h0, .inr (4, [.null, .null]))] s.heap.size = A at hD ⊢
  have hA : ∀ q : Nat, s.heap.size ≤ q → A q := fun q h => by rw [← hAe]; exact Or.inr h
  have hS : va_S A s.heap s.heap [] := va_S.rf
  have hP : va_P (dC, dI) vwCl [(h0, .inr (4, [.null, .null]))] s.heap := hP
  have hl := lv_entry ([.ref h0, .ref h1]) (n := 2) (Nat.le_of_ble_eq_true rfl)
  rw [lg_entry_eq]
  generalize (lg_sl ([.ref h0, .ref h1]) ++ List.replicate (2 - (lg_sl ([.ref h0, .ref h1])).length) Slot.unset).toArray = ls at hl ⊢
  have hl : lv_has ls 2 [(0, .ref h0), (1, .ref h1)] := hl
  refine lv_aload_n hx hb dX3_init_0 rfl (lv_at hl 0 rfl) ?_
  refine W.objInit hx hb hown (hts _ (List.mem_cons_of_mem _ (List.mem_append_left _ (List.mem_of_getElem? (i := 0) rfl)))) (hts _ (List.mem_cons_of_mem _ (List.mem_append_left _ (List.mem_of_getElem? (i := 1) rfl)))) (hts _ (List.mem_cons_of_mem _ (List.mem_append_left _ (List.mem_of_getElem? (i := 2) rfl)))) rfl (by rw [hml]; exact hl.1) rfl dX3_init_1 (Nat.le_of_ble_eq_true rfl) (Nat.le_of_ble_eq_true rfl) ?_
  refine W.eq (g2 := F0 m 4 ls []) rfl ?_
  refine lv_aload_n hx hb dX3_init_4 rfl (lv_at hl 0 rfl) ?_
  refine lv_aload_n hx hb dX3_init_5 rfl (lv_at hl 1 rfl) ?_
  refine va_put (D := (dC, dI)) (ci := 4) (v := .ref h1) (ty := tyX3 1) (C := RX3) (T := TX3) (N := 2) hx hb hts (fun w h => List.mem_cons_of_mem _ (List.mem_append_right _ (List.mem_append_left _ h))) tyX3 tyX3_ok nmX3 hown hK hP hD hS 0 rfl rfl 1 (by decide) (hts _ (List.mem_cons_of_mem _ (List.mem_append_left _ (List.mem_of_getElem? (i := 3) rfl)))) (fun _ h9 => h9) rfl (tyX3_ok 1 (by decide)) rfl rfl (Nat.le_of_ble_eq_true rfl) dX3_init_6 (fun H1 lo1 hP1 hD1 hS1 => ?_)
  clear hP hD hS
  replace hP1 : va_P (dC, dI) vwCl [(h0, .inr (4, [.null, .ref h1]))] H1 := hP1
  replace hD1 : va_D A [(h0, .inr (4, [.null, .ref h1]))] := hD1
  refine lv_aload_n hx hb dX3_init_9 rfl (lv_at hl 0 rfl) ?_
  refine va_new (ci := 3) (fs := [.null, .long 0, .long 0, .null, .int 0]) (C := RX2) (T := TX2) (N := 5) hx hb hts (fun w h => List.mem_cons_of_mem _ (List.mem_append_right _ (List.mem_append_right _ (List.mem_append_left _ h)))) tyX2 tyX2_ok hown (hts _ (List.mem_cons_of_mem _ (List.mem_append_left _ (List.mem_of_getElem? (i := 4) rfl)))) (hts _ (List.mem_cons_of_mem _ (List.mem_append_left _ (List.mem_of_getElem? (i := 5) rfl)))) (hts _ (List.mem_cons_of_mem _ (List.mem_append_left _ (List.mem_of_getElem? (i := 6) rfl)))) hK hP1 hD1 hS1 hA rfl (fun j hj => by have : ∀ j, j < 5 → defaultValue (tyX2 j) = vp_V [.null, .long 0, .long 0, .null, .int 0] j := (by decide +kernel); exact this j hj) (Nat.le_of_ble_eq_true rfl) (Nat.le_of_ble_eq_true rfl) dX3_init_10 (fun q2 H3 hP3 hD3 hS3 => ?_)
  refine W.widen (k := 1) (n := 5) (Nat.le_of_ble_eq_true rfl) (Nat.le_of_ble_eq_true rfl) ?_
  clear hP1 hD1 hS1 H1
  replace hP3 : va_P (dC, dI) vwCl [(h0, .inr (4, [.null, .ref h1])), (q2, .inr (3, [.null, .long 0, .long 0, .null, .int 0]))] H3 := hP3
  replace hD3 : va_D A [(h0, .inr (4, [.null, .ref h1])), (q2, .inr (3, [.null, .long 0, .long 0, .null, .int 0]))] := hD3
  refine lv_dup hx hb dX3_init_13 rfl ?_
  refine lv_aload_n hx hb dX3_init_14 rfl (lv_at hl 1 rfl) ?_
  have hPc4 := hP3.sub (ws' := [(q2, .inr (3, [.null, .long 0, .long 0, .null, .int 0]))]) [1] rfl
  have hDc4 := hD3.sub (ws' := [(q2, .inr (3, [.null, .long 0, .long 0, .null, .int 0]))]) [1] (by decide) rfl
  have hKc4 := hK.sub (tys' := []) [] rfl
  have hFc4 := va_free (wc := [(q2, .inr (3, [.null, .long 0, .long 0, .null, .int 0]))]) hD3 hS3 hA [1] rfl
  refine va_callv (va_runI (As := [.ref h1]) (rest := [.ref q2, .ref h0]) ⟨hx, hb, hml, hown, hts⟩ (c_X2_init l dC dI (q2) (h1) H3.size) (cwI 1 hts (goodIn_sub (fun w h => List.mem_cons_of_mem _ (List.mem_append_right _ (List.mem_append_right _ (List.mem_append_right _ h)))) (by decide +kernel)) rfl rfl rfl (hts _ (List.mem_cons_of_mem _ (List.mem_append_left _ (List.mem_of_getElem? (i := 6) rfl)))) (hts _ (List.mem_cons_of_mem _ (List.mem_append_left _ (List.mem_of_getElem? (i := 7) rfl)))) (hts _ (List.mem_cons_of_mem _ (List.mem_append_left _ (List.mem_of_getElem? (i := 8) rfl)))) rfl (by decide +kernel) ⟨Nat.le_of_ble_eq_true rfl, Nat.le_of_ble_eq_true rfl⟩) ⟨fun a U g mk q => by obtain ⟨q0, q1, qP, qK, qD⟩ := q; exact ⟨q0, q1, qP, va_K.moved (u := U) (U := U.calling g mk a) (Vm.Alike.refl U.vm) qK, qD⟩, fun U hU hW => ⟨rfl, by rw [hU], by rw [hU]; exact hPc4, va_K.moved hW.alike hKc4, hDc4.weaken (fun _ _ _ _ => trivial)⟩⟩ rfl rfl hl.1 rfl (lv_room (Nat.le_of_ble_eq_true rfl)) dX3_init_15 ⟨Nat.le_of_ble_eq_true rfl, Nat.le_of_ble_eq_true rfl⟩) hS3 (fun q _ h => hFc4 q h) hFc4 (fun u5 t5 H5 lo5 ht5 hvm5 hw5 hB5 hz5 hk5 hS5 => ?_)
  obtain ⟨q1_5, cA1_5, hP1_5, hK1_5, hD1_5⟩ := hB5
  rw [ht5] at hP1_5
  replace hK1_5 := va_K.moved hvm5.symm hK1_5
  obtain ⟨hP5, hD5⟩ := va_join (wr := [(h0, .inr (4, [.null, .ref h1]))]) (w1 := [(q2, .inr (3, [.ref h1, .long 0, .long 0, .ref q1_5, .int 0])), (q1_5, .inl (cA1_5, (500, .inr (.inl (fun _ => 0)))))]) hP3 hD3 [1] [0] rfl rfl (by decide) (by decide) hk5 hFc4 hP1_5 hD1_5
  have hK5 := (hK.sub (tys' := []) [] rfl).app hK1_5
  replace hK5 : va_K (dC, dI) vwCl [(cA1_5, .long)] s := hK5
  replace hP5 : va_P (dC, dI) vwCl [(h0, .inr (4, [.null, .ref h1])), (q2, .inr (3, [.ref h1, .long 0, .long 0, .ref q1_5, .int 0])), (q1_5, .inl (cA1_5, (500, .inr (.inl (fun _ => 0)))))] H5 := hP5
  replace hD5 : va_D A [(h0, .inr (4, [.null, .ref h1])), (q2, .inr (3, [.ref h1, .long 0, .long 0, .ref q1_5, .int 0])), (q1_5, .inl (cA1_5, (500, .inr (.inl (fun _ => 0)))))] := hD5
  clear hP1_5 hD1_5 hK1_5 hk5 hFc4 hPc4 hDc4 hKc4 hz5 ht5 hvm5 hP3 hD3 hS3 hK H3
  clear lo1
  refine W.widen (k := 2) (n := 505) (Nat.le_of_ble_eq_true rfl) (Nat.le_of_ble_eq_true rfl) ?_
  refine va_putF (D := (dC, dI)) (ci := 4) (v := .ref q2) (ty := tyX3 0) (C := RX3) (T := TX3) (N := 2) hx hb hts (fun w h => List.mem_cons_of_mem _ (List.mem_append_right _ (List.mem_append_left _ h))) tyX3 tyX3_ok nmX3 hown hK5 hP5 hD5 hS5 0 rfl rfl 0 (by decide) (hts _ (List.mem_cons_of_mem _ (List.mem_append_left _ (List.mem_of_getElem? (i := 9) rfl)))) (fun _ h9 => h9) rfl hin rfl (tyX3_ok 0 (by decide)) rfl rfl (Nat.le_of_ble_eq_true rfl) dX3_init_18 (fun H6 lo6 hP6 hD6 hS6 => ?_)
  clear hP5 hD5 hS5 H5 lo5
  replace hP6 : va_P (dC, dI) vwCl [(h0, .inr (4, [.ref q2, .ref h1])), (q2, .inr (3, [.ref h1, .long 0, .long 0, .ref q1_5, .int 0])), (q1_5, .inl (cA1_5, (500, .inr (.inl (fun _ => 0)))))] H6 := hP6
  replace hD6 : va_D A [(h0, .inr (4, [.ref q2, .ref h1])), (q2, .inr (3, [.ref h1, .long 0, .long 0, .ref q1_5, .int 0])), (q1_5, .inl (cA1_5, (500, .inr (.inl (fun _ => 0)))))] := hD6
  exact W.vret hx hb hr (fun t ht hW => ⟨⟨(), rfl, trivial, q2, q1_5, cA1_5, by rw [ht]; exact hP6, va_K.moved hW.alike hK5, hD6⟩, hS6.F ht⟩) hS6.2.2 dX3_init_21
set_option maxRecDepth 20000 in
def ww_X0_init : List Cond := .code yX0_init cX0_init 2 none :: ([Cond.methodLink RX0 3 objectInit, Cond.instanceMethod objectInit, Cond.code objectInit ⟨#[0xb1]⟩ 1 none, Cond.arrayClass .int, Cond.fieldLink RX0 11 "PlainJava$Code" "order" "[I", Cond.fieldLink RX0 15 "PlainJava$Code" "target" "[I", Cond.classLink RX0 18 RX1, Cond.fieldLink RX0 20 "PlainJava$Code" "exp" "[LPlainJava$Exp;", Cond.classLink RX0 24 RX8, Cond.fieldLink RX0 26 "PlainJava$Code" "owner" "[LPlainJava$Statement;", Cond.instantiable RX8 21, Cond.initialized RX8, Cond.methodLink RX0 30 yX8_init, Cond.instanceMethod yX8_init, Cond.fieldLink RX0 33 "PlainJava$Code" "current" "LPlainJava$Statement;", Cond.fieldLink RX0 37 "PlainJava$Code" "program" "LPlainJava$Program;"] ++ (wsX00 ++ (wsX80 ++ (ww_X8_init))))
set_option maxHeartbeats 40000000 in
set_option maxRecDepth 100000 in
/-- Code(program) -/
theorem c_X0_init (l : Launch) (dC : Nat → ClassId) (dI : Nat → Nat → Nat) (z0 : Nat) (adK : Nat → Nat) (adV : Nat → Nat) (h0 : Nat) (h1 : Nat) (sz : Nat) : Met l yX0_init ww_X0_init ({ frames := 2, cells := 5, slots := 4021, locals := 200 }) (va_Pc [.ref h0, .ref h1] (fun U => U.heap.size = sz ∧ va_P (dC, dI) vwCl [(h0, .inr (1, [.null, .null, .null, .null, .int 0, .null, .null]))] U.heap ∧ va_K (dC, dI) vwCl [] U ∧ va_D (fun _ => True) [(h0, .inr (1, [.null, .null, .null, .null, .int 0, .null, .null]))] ∧ ev z0 adK adV (va_A [(h0, .inr (1, [.null, .null, .null, .null, .int 0, .null, .null]))] sz) U U.heap)) (va_Qv (fun _ : Unit => True) (fun (_ : Unit) (t : State) => ∃ (q1 : Nat) (cA1 : ClassId) (q4 : Nat) (cA4 : ClassId) (q7 : Nat) (cA7 : ClassId) (q10 : Nat) (cA10 : ClassId) (q13 : Nat), va_P (dC, dI) vwCl [(h0, .inr (1, [.ref q1, .ref q4, .ref q7, .ref q10, .int 0, .ref h1, .ref q13])), (q1, .inl (cA1, (1000, .inl (fun _ => 0)))), (q4, .inl (cA4, (1000, .inl (fun _ => 0)))), (q7, .inl (cA7, (1000, .inr (.inr (.inr (.inr (fun _ => none))))))), (q10, .inl (cA10, (1000, .inr (.inr (.inr (.inr (fun _ => none))))))), (q13, .inr (9, [.int 92, .int 0, .int 0, .null, .long 0, .null, .null, .null, .null, .null, .int (-1), .null, .int 0, .int 0, .int 0, .long 0, .long 0, .long (-1), .long (-1), .int 0, .int 0]))] t.heap ∧ va_K (dC, dI) vwCl [(cA1, .int), (cA4, .int), (cA7, (.object "PlainJava$Exp")), (cA10, (.object "PlainJava$Statement"))] t ∧ va_D (va_A [(h0, .inr (1, [.null, .null, .null, .null, .int 0, .null, .null]))] sz) [(h0, .inr (1, [.ref q1, .ref q4, .ref q7, .ref q10, .int 0, .ref h1, .ref q13])), (q1, .inl (cA1, (1000, .inl (fun _ => 0)))), (q4, .inl (cA4, (1000, .inl (fun _ => 0)))), (q7, .inl (cA7, (1000, .inr (.inr (.inr (.inr (fun _ => none))))))), (q10, .inl (cA10, (1000, .inr (.inr (.inr (.inr (fun _ => none))))))), (q13, .inr (9, [.int 92, .int 0, .int 0, .null, .long 0, .null, .null, .null, .null, .null, .int (-1), .null, .int 0, .int 0, .int 0, .long 0, .long 0, .long (-1), .long (-1), .int 0, .int 0]))]) (va_A [(h0, .inr (1, [.null, .null, .null, .null, .int 0, .null, .null]))] sz)) 5 4021 (va_A [(h0, .inr (1, [.null, .null, .null, .null, .int 0, .null, .null]))] sz) := by
  refine Met.ofW (cc := cX0_init) (maxL := 2) (ret := none) (by decide) rfl ?_
  intro p e s m args below meth c s₁ B hml hv
  obtain ⟨rfl, hsz, hP, hK, hD0, hE⟩ := hv
  have hx := B.exec
  have hb := B.bytes
  have hr := B.returns
  have hts := atoms_spec (ws := ww_X0_init) B.pre
  have hown : s.vm.findClass RX0 = some m.cls := findClass_of_methodNamed B.named
  have hlocks := B.notSynchronized
  have hin : meth.name = "<init>" := (name_of_methodNamed B.named B.method).1
  subst hsz
  have hD := hD0.self (sz := s.heap.size)
  generalize hAe : va_A [(h0, .inr (1, [.null, .null, .null, .null, .int 0, .null, .null]))] s.heap.size = A at hD hE ⊢
  have hA : ∀ q : Nat, s.heap.size ≤ q → A q := fun q h => by rw [← hAe]; exact Or.inr h
  have hS : va_S A s.heap s.heap [] := va_S.rf
  have hP : va_P (dC, dI) vwCl [(h0, .inr (1, [.null, .null, .null, .null, .int 0, .null, .null]))] s.heap := hP
  have hl := lv_entry ([.ref h0, .ref h1]) (n := 2) (Nat.le_of_ble_eq_true rfl)
  rw [lg_entry_eq]
  generalize (lg_sl ([.ref h0, .ref h1]) ++ List.replicate (2 - (lg_sl ([.ref h0, .ref h1])).length) Slot.unset).toArray = ls at hl ⊢
  have hl : lv_has ls 2 [(0, .ref h0), (1, .ref h1)] := hl
  refine lv_aload_n hx hb dX0_init_0 rfl (lv_at hl 0 rfl) ?_
  refine W.objInit hx hb hown (hts _ (List.mem_cons_of_mem _ (List.mem_append_left _ (List.mem_of_getElem? (i := 0) rfl)))) (hts _ (List.mem_cons_of_mem _ (List.mem_append_left _ (List.mem_of_getElem? (i := 1) rfl)))) (hts _ (List.mem_cons_of_mem _ (List.mem_append_left _ (List.mem_of_getElem? (i := 2) rfl)))) rfl (by rw [hml]; exact hl.1) rfl dX0_init_1 (Nat.le_of_ble_eq_true rfl) (Nat.le_of_ble_eq_true rfl) ?_
  refine W.eq (g2 := F0 m 4 ls []) rfl ?_
  refine lv_aload_n hx hb dX0_init_4 rfl (lv_at hl 0 rfl) ?_
  refine lv_sipush (v := 1000) hx hb dX0_init_5 (by decide) ?_
  refine va_newa (ty := .int) (N' := 1000) (a0 := (1000, .inl (fun _ => 0))) hx hb (hts _ (List.mem_cons_of_mem _ (List.mem_append_left _ (List.mem_of_getElem? (i := 3) rfl)))) rfl hK hP hD hS hA (fun _ => rfl) (by decide) (by decide) (by decide) (Nat.le_of_ble_eq_true rfl) (Nat.le_of_ble_eq_true rfl) dX0_init_8 (fun q1 cA1 H2 hK2 hP2 hD2 hS2 => ?_)
  refine W.widen (k := 1) (n := 1000) (Nat.le_of_ble_eq_true rfl) (Nat.le_of_ble_eq_true rfl) ?_
  clear hP hD hS hK
  replace hK2 : va_K (dC, dI) vwCl [(cA1, .int)] s := hK2
  replace hP2 : va_P (dC, dI) vwCl [(h0, .inr (1, [.null, .null, .null, .null, .int 0, .null, .null])), (q1, .inl (cA1, (1000, .inl (fun _ => 0))))] H2 := hP2
  replace hD2 : va_D A [(h0, .inr (1, [.null, .null, .null, .null, .int 0, .null, .null])), (q1, .inl (cA1, (1000, .inl (fun _ => 0))))] := hD2
  refine va_putF (D := (dC, dI)) (ci := 1) (v := .ref q1) (ty := tyX0 0) (C := RX0) (T := TX0) (N := 7) hx hb hts (fun w h => List.mem_cons_of_mem _ (List.mem_append_right _ (List.mem_append_left _ h))) tyX0 tyX0_ok nmX0 hown hK2 hP2 hD2 hS2 0 rfl rfl 0 (by decide) (hts _ (List.mem_cons_of_mem _ (List.mem_append_left _ (List.mem_of_getElem? (i := 4) rfl)))) (fun _ h9 => h9) rfl hin rfl (tyX0_ok 0 (by decide)) rfl rfl (Nat.le_of_ble_eq_true rfl) dX0_init_10 (fun H3 lo3 hP3 hD3 hS3 => ?_)
  clear hP2 hD2 hS2 H2
  replace hP3 : va_P (dC, dI) vwCl [(h0, .inr (1, [.ref q1, .null, .null, .null, .int 0, .null, .null])), (q1, .inl (cA1, (1000, .inl (fun _ => 0))))] H3 := hP3
  replace hD3 : va_D A [(h0, .inr (1, [.ref q1, .null, .null, .null, .int 0, .null, .null])), (q1, .inl (cA1, (1000, .inl (fun _ => 0))))] := hD3
  refine lv_aload_n hx hb dX0_init_13 rfl (lv_at hl 0 rfl) ?_
  refine lv_sipush (v := 1000) hx hb dX0_init_14 (by decide) ?_
  refine va_newa (ty := .int) (N' := 1000) (a0 := (1000, .inl (fun _ => 0))) hx hb (hts _ (List.mem_cons_of_mem _ (List.mem_append_left _ (List.mem_of_getElem? (i := 3) rfl)))) rfl hK2 hP3 hD3 hS3 hA (fun _ => rfl) (by decide) (by decide) (by decide) (Nat.le_of_ble_eq_true rfl) (Nat.le_of_ble_eq_true rfl) dX0_init_17 (fun q4 cA4 H5 hK5 hP5 hD5 hS5 => ?_)
  refine W.widen (k := 2) (n := 2000) (Nat.le_of_ble_eq_true rfl) (Nat.le_of_ble_eq_true rfl) ?_
  clear hP3 hD3 hS3 hK2 H3
  replace hK5 : va_K (dC, dI) vwCl [(cA1, .int), (cA4, .int)] s := hK5
  replace hP5 : va_P (dC, dI) vwCl [(h0, .inr (1, [.ref q1, .null, .null, .null, .int 0, .null, .null])), (q1, .inl (cA1, (1000, .inl (fun _ => 0)))), (q4, .inl (cA4, (1000, .inl (fun _ => 0))))] H5 := hP5
  replace hD5 : va_D A [(h0, .inr (1, [.ref q1, .null, .null, .null, .int 0, .null, .null])), (q1, .inl (cA1, (1000, .inl (fun _ => 0)))), (q4, .inl (cA4, (1000, .inl (fun _ => 0))))] := hD5
  refine va_putF (D := (dC, dI)) (ci := 1) (v := .ref q4) (ty := tyX0 1) (C := RX0) (T := TX0) (N := 7) hx hb hts (fun w h => List.mem_cons_of_mem _ (List.mem_append_right _ (List.mem_append_left _ h))) tyX0 tyX0_ok nmX0 hown hK5 hP5 hD5 hS5 0 rfl rfl 1 (by decide) (hts _ (List.mem_cons_of_mem _ (List.mem_append_left _ (List.mem_of_getElem? (i := 5) rfl)))) (fun _ h9 => h9) rfl hin rfl (tyX0_ok 1 (by decide)) rfl rfl (Nat.le_of_ble_eq_true rfl) dX0_init_19 (fun H6 lo6 hP6 hD6 hS6 => ?_)
  clear hP5 hD5 hS5 H5 lo3
  replace hP6 : va_P (dC, dI) vwCl [(h0, .inr (1, [.ref q1, .ref q4, .null, .null, .int 0, .null, .null])), (q1, .inl (cA1, (1000, .inl (fun _ => 0)))), (q4, .inl (cA4, (1000, .inl (fun _ => 0))))] H6 := hP6
  replace hD6 : va_D A [(h0, .inr (1, [.ref q1, .ref q4, .null, .null, .int 0, .null, .null])), (q1, .inl (cA1, (1000, .inl (fun _ => 0)))), (q4, .inl (cA4, (1000, .inl (fun _ => 0))))] := hD6
  refine lv_aload_n hx hb dX0_init_22 rfl (lv_at hl 0 rfl) ?_
  refine lv_sipush (v := 1000) hx hb dX0_init_23 (by decide) ?_
  refine va_newq (C := "PlainJava$Exp") (N' := 1000) hx hb hown (hts _ (List.mem_cons_of_mem _ (List.mem_append_left _ (List.mem_of_getElem? (i := 6) rfl)))) hE.1 hK5 hP6 hD6 hS6 hA (by decide) (by decide) (by decide) (Nat.le_of_ble_eq_true rfl) (Nat.le_of_ble_eq_true rfl) dX0_init_26 (fun q7 cA7 H8 hK8 hP8 hD8 hS8 => ?_)
  refine W.widen (k := 3) (n := 3000) (Nat.le_of_ble_eq_true rfl) (Nat.le_of_ble_eq_true rfl) ?_
  clear hP6 hD6 hS6 hK5 H6
  replace hK8 : va_K (dC, dI) vwCl [(cA1, .int), (cA4, .int), (cA7, (.object "PlainJava$Exp"))] s := hK8
  replace hP8 : va_P (dC, dI) vwCl [(h0, .inr (1, [.ref q1, .ref q4, .null, .null, .int 0, .null, .null])), (q1, .inl (cA1, (1000, .inl (fun _ => 0)))), (q4, .inl (cA4, (1000, .inl (fun _ => 0)))), (q7, .inl (cA7, (1000, .inr (.inr (.inr (.inr (fun _ => none)))))))] H8 := hP8
  replace hD8 : va_D A [(h0, .inr (1, [.ref q1, .ref q4, .null, .null, .int 0, .null, .null])), (q1, .inl (cA1, (1000, .inl (fun _ => 0)))), (q4, .inl (cA4, (1000, .inl (fun _ => 0)))), (q7, .inl (cA7, (1000, .inr (.inr (.inr (.inr (fun _ => none)))))))] := hD8
  refine va_putF (D := (dC, dI)) (ci := 1) (v := .ref q7) (ty := tyX0 2) (C := RX0) (T := TX0) (N := 7) hx hb hts (fun w h => List.mem_cons_of_mem _ (List.mem_append_right _ (List.mem_append_left _ h))) tyX0 tyX0_ok nmX0 hown hK8 hP8 hD8 hS8 0 rfl rfl 2 (by decide) (hts _ (List.mem_cons_of_mem _ (List.mem_append_left _ (List.mem_of_getElem? (i := 7) rfl)))) (fun _ h9 => h9) rfl hin rfl (tyX0_ok 2 (by decide)) rfl rfl (Nat.le_of_ble_eq_true rfl) dX0_init_29 (fun H9 lo9 hP9 hD9 hS9 => ?_)
  clear hP8 hD8 hS8 H8 lo6
  replace hP9 : va_P (dC, dI) vwCl [(h0, .inr (1, [.ref q1, .ref q4, .ref q7, .null, .int 0, .null, .null])), (q1, .inl (cA1, (1000, .inl (fun _ => 0)))), (q4, .inl (cA4, (1000, .inl (fun _ => 0)))), (q7, .inl (cA7, (1000, .inr (.inr (.inr (.inr (fun _ => none)))))))] H9 := hP9
  replace hD9 : va_D A [(h0, .inr (1, [.ref q1, .ref q4, .ref q7, .null, .int 0, .null, .null])), (q1, .inl (cA1, (1000, .inl (fun _ => 0)))), (q4, .inl (cA4, (1000, .inl (fun _ => 0)))), (q7, .inl (cA7, (1000, .inr (.inr (.inr (.inr (fun _ => none)))))))] := hD9
  refine lv_aload_n hx hb dX0_init_32 rfl (lv_at hl 0 rfl) ?_
  refine lv_sipush (v := 1000) hx hb dX0_init_33 (by decide) ?_
  refine va_newq (C := "PlainJava$Statement") (N' := 1000) hx hb hown (hts _ (List.mem_cons_of_mem _ (List.mem_append_left _ (List.mem_of_getElem? (i := 8) rfl)))) hE.2.1 hK8 hP9 hD9 hS9 hA (by decide) (by decide) (by decide) (Nat.le_of_ble_eq_true rfl) (Nat.le_of_ble_eq_true rfl) dX0_init_36 (fun q10 cA10 H11 hK11 hP11 hD11 hS11 => ?_)
  refine W.widen (k := 4) (n := 4000) (Nat.le_of_ble_eq_true rfl) (Nat.le_of_ble_eq_true rfl) ?_
  clear hP9 hD9 hS9 hK8 H9
  replace hK11 : va_K (dC, dI) vwCl [(cA1, .int), (cA4, .int), (cA7, (.object "PlainJava$Exp")), (cA10, (.object "PlainJava$Statement"))] s := hK11
  replace hP11 : va_P (dC, dI) vwCl [(h0, .inr (1, [.ref q1, .ref q4, .ref q7, .null, .int 0, .null, .null])), (q1, .inl (cA1, (1000, .inl (fun _ => 0)))), (q4, .inl (cA4, (1000, .inl (fun _ => 0)))), (q7, .inl (cA7, (1000, .inr (.inr (.inr (.inr (fun _ => none))))))), (q10, .inl (cA10, (1000, .inr (.inr (.inr (.inr (fun _ => none)))))))] H11 := hP11
  replace hD11 : va_D A [(h0, .inr (1, [.ref q1, .ref q4, .ref q7, .null, .int 0, .null, .null])), (q1, .inl (cA1, (1000, .inl (fun _ => 0)))), (q4, .inl (cA4, (1000, .inl (fun _ => 0)))), (q7, .inl (cA7, (1000, .inr (.inr (.inr (.inr (fun _ => none))))))), (q10, .inl (cA10, (1000, .inr (.inr (.inr (.inr (fun _ => none)))))))] := hD11
  refine va_putF (D := (dC, dI)) (ci := 1) (v := .ref q10) (ty := tyX0 3) (C := RX0) (T := TX0) (N := 7) hx hb hts (fun w h => List.mem_cons_of_mem _ (List.mem_append_right _ (List.mem_append_left _ h))) tyX0 tyX0_ok nmX0 hown hK11 hP11 hD11 hS11 0 rfl rfl 3 (by decide) (hts _ (List.mem_cons_of_mem _ (List.mem_append_left _ (List.mem_of_getElem? (i := 9) rfl)))) (fun _ h9 => h9) rfl hin rfl (tyX0_ok 3 (by decide)) rfl rfl (Nat.le_of_ble_eq_true rfl) dX0_init_39 (fun H12 lo12 hP12 hD12 hS12 => ?_)
  clear hP11 hD11 hS11 H11 lo9
  replace hP12 : va_P (dC, dI) vwCl [(h0, .inr (1, [.ref q1, .ref q4, .ref q7, .ref q10, .int 0, .null, .null])), (q1, .inl (cA1, (1000, .inl (fun _ => 0)))), (q4, .inl (cA4, (1000, .inl (fun _ => 0)))), (q7, .inl (cA7, (1000, .inr (.inr (.inr (.inr (fun _ => none))))))), (q10, .inl (cA10, (1000, .inr (.inr (.inr (.inr (fun _ => none)))))))] H12 := hP12
  replace hD12 : va_D A [(h0, .inr (1, [.ref q1, .ref q4, .ref q7, .ref q10, .int 0, .null, .null])), (q1, .inl (cA1, (1000, .inl (fun _ => 0)))), (q4, .inl (cA4, (1000, .inl (fun _ => 0)))), (q7, .inl (cA7, (1000, .inr (.inr (.inr (.inr (fun _ => none))))))), (q10, .inl (cA10, (1000, .inr (.inr (.inr (.inr (fun _ => none)))))))] := hD12
  refine lv_aload_n hx hb dX0_init_42 rfl (lv_at hl 0 rfl) ?_
  refine va_new (ci := 9) (fs := [.int 0, .int 0, .int 0, .null, .long 0, .null, .null, .null, .null, .null, .int 0, .null, .int 0, .int 0, .int 0, .long 0, .long 0, .long 0, .long 0, .int 0, .int 0]) (C := RX8) (T := TX8) (N := 21) hx hb hts (fun w h => List.mem_cons_of_mem _ (List.mem_append_right _ (List.mem_append_right _ (List.mem_append_left _ h)))) tyX8 tyX8_ok hown (hts _ (List.mem_cons_of_mem _ (List.mem_append_left _ (List.mem_of_getElem? (i := 8) rfl)))) (hts _ (List.mem_cons_of_mem _ (List.mem_append_left _ (List.mem_of_getElem? (i := 10) rfl)))) (hts _ (List.mem_cons_of_mem _ (List.mem_append_left _ (List.mem_of_getElem? (i := 11) rfl)))) hK11 hP12 hD12 hS12 hA rfl (fun j hj => by have : ∀ j, j < 21 → defaultValue (tyX8 j) = vp_V [.int 0, .int 0, .int 0, .null, .long 0, .null, .null, .null, .null, .null, .int 0, .null, .int 0, .int 0, .int 0, .long 0, .long 0, .long 0, .long 0, .int 0, .int 0] j := (by decide +kernel); exact this j hj) (Nat.le_of_ble_eq_true rfl) (Nat.le_of_ble_eq_true rfl) dX0_init_43 (fun q13 H14 hP14 hD14 hS14 => ?_)
  refine W.widen (k := 5) (n := 4021) (Nat.le_of_ble_eq_true rfl) (Nat.le_of_ble_eq_true rfl) ?_
  clear hP12 hD12 hS12 H12
  replace hP14 : va_P (dC, dI) vwCl [(h0, .inr (1, [.ref q1, .ref q4, .ref q7, .ref q10, .int 0, .null, .null])), (q1, .inl (cA1, (1000, .inl (fun _ => 0)))), (q4, .inl (cA4, (1000, .inl (fun _ => 0)))), (q7, .inl (cA7, (1000, .inr (.inr (.inr (.inr (fun _ => none))))))), (q10, .inl (cA10, (1000, .inr (.inr (.inr (.inr (fun _ => none))))))), (q13, .inr (9, [.int 0, .int 0, .int 0, .null, .long 0, .null, .null, .null, .null, .null, .int 0, .null, .int 0, .int 0, .int 0, .long 0, .long 0, .long 0, .long 0, .int 0, .int 0]))] H14 := hP14
  replace hD14 : va_D A [(h0, .inr (1, [.ref q1, .ref q4, .ref q7, .ref q10, .int 0, .null, .null])), (q1, .inl (cA1, (1000, .inl (fun _ => 0)))), (q4, .inl (cA4, (1000, .inl (fun _ => 0)))), (q7, .inl (cA7, (1000, .inr (.inr (.inr (.inr (fun _ => none))))))), (q10, .inl (cA10, (1000, .inr (.inr (.inr (.inr (fun _ => none))))))), (q13, .inr (9, [.int 0, .int 0, .int 0, .null, .long 0, .null, .null, .null, .null, .null, .int 0, .null, .int 0, .int 0, .int 0, .long 0, .long 0, .long 0, .long 0, .int 0, .int 0]))] := hD14
  refine lv_dup hx hb dX0_init_46 rfl ?_
  refine lv_bipush (v := 92) hx hb dX0_init_47 (by decide) ?_
  refine lv_iconst (v := 0) hx hb dX0_init_49 (by decide) ?_
  refine lv_iconst (v := 0) hx hb dX0_init_50 (by decide) ?_
  refine lv_null hx hb dX0_init_51 ?_
  refine lv_lconst (v := 0) hx hb dX0_init_52 (by decide) ?_
  have hPc15 := hP14.sub (ws' := [(q13, .inr (9, [.int 0, .int 0, .int 0, .null, .long 0, .null, .null, .null, .null, .null, .int 0, .null, .int 0, .int 0, .int 0, .long 0, .long 0, .long 0, .long 0, .int 0, .int 0]))]) [5] rfl
  have hDc15 := hD14.sub (ws' := [(q13, .inr (9, [.int 0, .int 0, .int 0, .null, .long 0, .null, .null, .null, .null, .null, .int 0, .null, .int 0, .int 0, .int 0, .long 0, .long 0, .long 0, .long 0, .int 0, .int 0]))]) [5] (by decide) rfl
  have hKc15 := hK11.sub (tys' := []) [] rfl
  have hFc15 := va_free (wc := [(q13, .inr (9, [.int 0, .int 0, .int 0, .null, .long 0, .null, .null, .null, .null, .null, .int 0, .null, .int 0, .int 0, .int 0, .long 0, .long 0, .long 0, .long 0, .int 0, .int 0]))]) hD14 hS14 hA [5] rfl
  refine va_callv (va_runI (As := [.int 92, .int 0, .int 0, .null, .long 0]) (rest := [.ref q13, .ref h0]) ⟨hx, hb, hml, hown, hts⟩ (c_X8_init l dC dI (q13) (92) (0) (0) (0) H14.size) (cwI 5 hts (goodIn_sub (fun w h => List.mem_cons_of_mem _ (List.mem_append_right _ (List.mem_append_right _ (List.mem_append_right _ h)))) (by decide +kernel)) rfl rfl rfl (hts _ (List.mem_cons_of_mem _ (List.mem_append_left _ (List.mem_of_getElem? (i := 11) rfl)))) (hts _ (List.mem_cons_of_mem _ (List.mem_append_left _ (List.mem_of_getElem? (i := 12) rfl)))) (hts _ (List.mem_cons_of_mem _ (List.mem_append_left _ (List.mem_of_getElem? (i := 13) rfl)))) rfl (by decide +kernel) ⟨Nat.le_of_ble_eq_true rfl, Nat.le_of_ble_eq_true rfl⟩) ⟨fun a U g mk q => by obtain ⟨q0, q1, qP, qK, qD⟩ := q; exact ⟨q0, q1, qP, va_K.moved (u := U) (U := U.calling g mk a) (Vm.Alike.refl U.vm) qK, qD⟩, fun U hU hW => ⟨rfl, by rw [hU], by rw [hU]; exact hPc15, va_K.moved hW.alike hKc15, hDc15.weaken (fun _ _ _ _ => trivial)⟩⟩ rfl rfl hl.1 rfl (lv_room (Nat.le_of_ble_eq_true rfl)) dX0_init_53 ⟨Nat.le_of_ble_eq_true rfl, Nat.le_of_ble_eq_true rfl⟩) hS14 (fun q _ h => hFc15 q h) hFc15 (fun u16 t16 H16 lo16 ht16 hvm16 hw16 hB16 hz16 hk16 hS16 => ?_)
  obtain ⟨hP1_16, hK1_16, hD1_16⟩ := hB16
  rw [ht16] at hP1_16
  replace hK1_16 := va_K.moved hvm16.symm hK1_16
  obtain ⟨hP16, hD16⟩ := va_join (wr := [(h0, .inr (1, [.ref q1, .ref q4, .ref q7, .ref q10, .int 0, .null, .null])), (q1, .inl (cA1, (1000, .inl (fun _ => 0)))), (q4, .inl (cA4, (1000, .inl (fun _ => 0)))), (q7, .inl (cA7, (1000, .inr (.inr (.inr (.inr (fun _ => none))))))), (q10, .inl (cA10, (1000, .inr (.inr (.inr (.inr (fun _ => none)))))))]) (w1 := [(q13, .inr (9, [.int 92, .int 0, .int 0, .null, .long 0, .null, .null, .null, .null, .null, .int (-1), .null, .int 0, .int 0, .int 0, .long 0, .long 0, .long (-1), .long (-1), .int 0, .int 0]))]) hP14 hD14 [5] [0, 1, 2, 3, 4] rfl rfl (by decide) (by decide) hk16 hFc15 hP1_16 hD1_16
  have hK16 := (hK11.sub (tys' := [(cA1, .int), (cA4, .int), (cA7, (.object "PlainJava$Exp")), (cA10, (.object "PlainJava$Statement"))]) [0, 1, 2, 3] rfl).app hK1_16
  replace hK16 : va_K (dC, dI) vwCl [(cA1, .int), (cA4, .int), (cA7, (.object "PlainJava$Exp")), (cA10, (.object "PlainJava$Statement"))] s := hK16
  replace hP16 : va_P (dC, dI) vwCl [(h0, .inr (1, [.ref q1, .ref q4, .ref q7, .ref q10, .int 0, .null, .null])), (q1, .inl (cA1, (1000, .inl (fun _ => 0)))), (q4, .inl (cA4, (1000, .inl (fun _ => 0)))), (q7, .inl (cA7, (1000, .inr (.inr (.inr (.inr (fun _ => none))))))), (q10, .inl (cA10, (1000, .inr (.inr (.inr (.inr (fun _ => none))))))), (q13, .inr (9, [.int 92, .int 0, .int 0, .null, .long 0, .null, .null, .null, .null, .null, .int (-1), .null, .int 0, .int 0, .int 0, .long 0, .long 0, .long (-1), .long (-1), .int 0, .int 0]))] H16 := hP16
  replace hD16 : va_D A [(h0, .inr (1, [.ref q1, .ref q4, .ref q7, .ref q10, .int 0, .null, .null])), (q1, .inl (cA1, (1000, .inl (fun _ => 0)))), (q4, .inl (cA4, (1000, .inl (fun _ => 0)))), (q7, .inl (cA7, (1000, .inr (.inr (.inr (.inr (fun _ => none))))))), (q10, .inl (cA10, (1000, .inr (.inr (.inr (.inr (fun _ => none))))))), (q13, .inr (9, [.int 92, .int 0, .int 0, .null, .long 0, .null, .null, .null, .null, .null, .int (-1), .null, .int 0, .int 0, .int 0, .long 0, .long 0, .long (-1), .long (-1), .int 0, .int 0]))] := hD16
  clear hP1_16 hD1_16 hK1_16 hk16 hFc15 hPc15 hDc15 hKc15 hz16 ht16 hvm16 hP14 hD14 hS14 hK11 H14
  clear lo12
  refine W.widen (k := 5) (n := 4021) (Nat.le_of_ble_eq_true rfl) (Nat.le_of_ble_eq_true rfl) ?_
  refine va_put (D := (dC, dI)) (ci := 1) (v := .ref q13) (ty := tyX0 6) (C := RX0) (T := TX0) (N := 7) hx hb hts (fun w h => List.mem_cons_of_mem _ (List.mem_append_right _ (List.mem_append_left _ h))) tyX0 tyX0_ok nmX0 hown hK16 hP16 hD16 hS16 0 rfl rfl 6 (by decide) (hts _ (List.mem_cons_of_mem _ (List.mem_append_left _ (List.mem_of_getElem? (i := 14) rfl)))) (fun _ h9 => h9) rfl (tyX0_ok 6 (by decide)) rfl rfl (Nat.le_of_ble_eq_true rfl) dX0_init_56 (fun H17 lo17 hP17 hD17 hS17 => ?_)
  clear hP16 hD16 hS16 H16 lo16
  replace hP17 : va_P (dC, dI) vwCl [(h0, .inr (1, [.ref q1, .ref q4, .ref q7, .ref q10, .int 0, .null, .ref q13])), (q1, .inl (cA1, (1000, .inl (fun _ => 0)))), (q4, .inl (cA4, (1000, .inl (fun _ => 0)))), (q7, .inl (cA7, (1000, .inr (.inr (.inr (.inr (fun _ => none))))))), (q10, .inl (cA10, (1000, .inr (.inr (.inr (.inr (fun _ => none))))))), (q13, .inr (9, [.int 92, .int 0, .int 0, .null, .long 0, .null, .null, .null, .null, .null, .int (-1), .null, .int 0, .int 0, .int 0, .long 0, .long 0, .long (-1), .long (-1), .int 0, .int 0]))] H17 := hP17
  replace hD17 : va_D A [(h0, .inr (1, [.ref q1, .ref q4, .ref q7, .ref q10, .int 0, .null, .ref q13])), (q1, .inl (cA1, (1000, .inl (fun _ => 0)))), (q4, .inl (cA4, (1000, .inl (fun _ => 0)))), (q7, .inl (cA7, (1000, .inr (.inr (.inr (.inr (fun _ => none))))))), (q10, .inl (cA10, (1000, .inr (.inr (.inr (.inr (fun _ => none))))))), (q13, .inr (9, [.int 92, .int 0, .int 0, .null, .long 0, .null, .null, .null, .null, .null, .int (-1), .null, .int 0, .int 0, .int 0, .long 0, .long 0, .long (-1), .long (-1), .int 0, .int 0]))] := hD17
  refine lv_aload_n hx hb dX0_init_59 rfl (lv_at hl 0 rfl) ?_
  refine lv_aload_n hx hb dX0_init_60 rfl (lv_at hl 1 rfl) ?_
  refine va_put (D := (dC, dI)) (ci := 1) (v := .ref h1) (ty := tyX0 5) (C := RX0) (T := TX0) (N := 7) hx hb hts (fun w h => List.mem_cons_of_mem _ (List.mem_append_right _ (List.mem_append_left _ h))) tyX0 tyX0_ok nmX0 hown hK16 hP17 hD17 hS17 0 rfl rfl 5 (by decide) (hts _ (List.mem_cons_of_mem _ (List.mem_append_left _ (List.mem_of_getElem? (i := 15) rfl)))) (fun _ h9 => h9) rfl (tyX0_ok 5 (by decide)) rfl rfl (Nat.le_of_ble_eq_true rfl) dX0_init_61 (fun H18 lo18 hP18 hD18 hS18 => ?_)
  clear hP17 hD17 hS17 H17 lo17
  replace hP18 : va_P (dC, dI) vwCl [(h0, .inr (1, [.ref q1, .ref q4, .ref q7, .ref q10, .int 0, .ref h1, .ref q13])), (q1, .inl (cA1, (1000, .inl (fun _ => 0)))), (q4, .inl (cA4, (1000, .inl (fun _ => 0)))), (q7, .inl (cA7, (1000, .inr (.inr (.inr (.inr (fun _ => none))))))), (q10, .inl (cA10, (1000, .inr (.inr (.inr (.inr (fun _ => none))))))), (q13, .inr (9, [.int 92, .int 0, .int 0, .null, .long 0, .null, .null, .null, .null, .null, .int (-1), .null, .int 0, .int 0, .int 0, .long 0, .long 0, .long (-1), .long (-1), .int 0, .int 0]))] H18 := hP18
  replace hD18 : va_D A [(h0, .inr (1, [.ref q1, .ref q4, .ref q7, .ref q10, .int 0, .ref h1, .ref q13])), (q1, .inl (cA1, (1000, .inl (fun _ => 0)))), (q4, .inl (cA4, (1000, .inl (fun _ => 0)))), (q7, .inl (cA7, (1000, .inr (.inr (.inr (.inr (fun _ => none))))))), (q10, .inl (cA10, (1000, .inr (.inr (.inr (.inr (fun _ => none))))))), (q13, .inr (9, [.int 92, .int 0, .int 0, .null, .long 0, .null, .null, .null, .null, .null, .int (-1), .null, .int 0, .int 0, .int 0, .long 0, .long 0, .long (-1), .long (-1), .int 0, .int 0]))] := hD18
  exact W.vret hx hb hr (fun t ht hW => ⟨⟨(), rfl, trivial, q1, cA1, q4, cA4, q7, cA7, q10, cA10, q13, by rw [ht]; exact hP18, va_K.moved hW.alike hK16, hD18⟩, hS18.F ht⟩) hS18.2.2 dX0_init_64
set_option maxRecDepth 20000 in
def ww_X4_init : List Cond := .code yX4_init cX4_init 2 none :: ([Cond.methodLink RX4 3 objectInit, Cond.instanceMethod objectInit, Cond.code objectInit ⟨#[0xb1]⟩ 1 none, Cond.arrayClass .long, Cond.fieldLink RX4 9 "PlainJava$Machine" "values" "[J", Cond.fieldLink RX4 15 "PlainJava$Machine" "stack" "[J", Cond.arrayClass .int, Cond.fieldLink RX4 18 "PlainJava$Machine" "floors" "[I", Cond.fieldLink RX4 22 "PlainJava$Machine" "returns" "[I", Cond.fieldLink RX4 25 "PlainJava$Machine" "ways" "[I", Cond.fieldLink RX4 28 "PlainJava$Machine" "carried" "[J", Cond.classLink RX4 31 RX8, Cond.fieldLink RX4 33 "PlainJava$Machine" "goals" "[LPlainJava$Statement;", Cond.fieldLink RX4 37 "PlainJava$Machine" "numbers" "[J", Cond.fieldLink RX4 40 "PlainJava$Machine" "inputs" "[I", Cond.fieldLink RX4 43 "PlainJava$Machine" "code" "LPlainJava$Code;"] ++ (wsX40))
set_option maxHeartbeats 40000000 in
set_option maxRecDepth 100000 in
/-- Machine(code) -/
theorem c_X4_init (l : Launch) (dC : Nat → ClassId) (dI : Nat → Nat → Nat) (z0 : Nat) (adK : Nat → Nat) (adV : Nat → Nat) (h0 : Nat) (h1 : Nat) (sz : Nat) : Met l yX4_init ww_X4_init ({ frames := 1, cells := 9, slots := 11452, locals := 100 }) (va_Pc [.ref h0, .ref h1] (fun U => U.heap.size = sz ∧ va_P (dC, dI) vwCl [(h0, .inr (5, [.null, .null, .null, .null, .null, .null, .null, .null, .null, .null, .int 0, .int 0, .int 0, .int 0, .int 0, .int 0, .int 0, .int 0, .int 0, .int 0, .long 0]))] U.heap ∧ va_K (dC, dI) vwCl [] U ∧ va_D (fun _ => True) [(h0, .inr (5, [.null, .null, .null, .null, .null, .null, .null, .null, .null, .null, .int 0, .int 0, .int 0, .int 0, .int 0, .int 0, .int 0, .int 0, .int 0, .int 0, .long 0]))] ∧ ev z0 adK adV (va_A [(h0, .inr (5, [.null, .null, .null, .null, .null, .null, .null, .null, .null, .null, .int 0, .int 0, .int 0, .int 0, .int 0, .int 0, .int 0, .int 0, .int 0, .int 0, .long 0]))] sz) U U.heap)) (va_Qv (fun _ : Unit => True) (fun (_ : Unit) (t : State) => ∃ (q1 : Nat) (cA1 : ClassId) (q4 : Nat) (cA4 : ClassId) (q7 : Nat) (cA7 : ClassId) (q10 : Nat) (cA10 : ClassId) (q13 : Nat) (cA13 : ClassId) (q16 : Nat) (cA16 : ClassId) (q19 : Nat) (cA19 : ClassId) (q22 : Nat) (cA22 : ClassId) (q25 : Nat) (cA25 : ClassId), va_P (dC, dI) vwCl [(h0, .inr (5, [.ref q1, .ref q4, .ref q7, .ref q10, .ref q13, .ref q16, .ref q19, .ref q22, .ref h1, .ref q25, .int 0, .int 0, .int 0, .int 0, .int 0, .int 0, .int 0, .int 0, .int 0, .int 0, .long 0])), (q1, .inl (cA1, (1800, .inr (.inl (fun _ => 0))))), (q4, .inl (cA4, (7500, .inr (.inl (fun _ => 0))))), (q7, .inl (cA7, (31, .inl (fun _ => 0)))), (q10, .inl (cA10, (31, .inl (fun _ => 0)))), (q13, .inl (cA13, (630, .inl (fun _ => 0)))), (q16, .inl (cA16, (630, .inr (.inl (fun _ => 0))))), (q19, .inl (cA19, (630, .inr (.inr (.inr (.inr (fun _ => none))))))), (q22, .inl (cA22, (200, .inr (.inl (fun _ => 0))))), (q25, .inl (cA25, (0, .inl (fun _ => 0))))] t.heap ∧ va_K (dC, dI) vwCl [(cA1, .long), (cA4, .long), (cA7, .int), (cA10, .int), (cA13, .int), (cA16, .long), (cA19, (.object "PlainJava$Statement")), (cA22, .long), (cA25, .int)] t ∧ va_D (va_A [(h0, .inr (5, [.null, .null, .null, .null, .null, .null, .null, .null, .null, .null, .int 0, .int 0, .int 0, .int 0, .int 0, .int 0, .int 0, .int 0, .int 0, .int 0, .long 0]))] sz) [(h0, .inr (5, [.ref q1, .ref q4, .ref q7, .ref q10, .ref q13, .ref q16, .ref q19, .ref q22, .ref h1, .ref q25, .int 0, .int 0, .int 0, .int 0, .int 0, .int 0, .int 0, .int 0, .int 0, .int 0, .long 0])), (q1, .inl (cA1, (1800, .inr (.inl (fun _ => 0))))), (q4, .inl (cA4, (7500, .inr (.inl (fun _ => 0))))), (q7, .inl (cA7, (31, .inl (fun _ => 0)))), (q10, .inl (cA10, (31, .inl (fun _ => 0)))), (q13, .inl (cA13, (630, .inl (fun _ => 0)))), (q16, .inl (cA16, (630, .inr (.inl (fun _ => 0))))), (q19, .inl (cA19, (630, .inr (.inr (.inr (.inr (fun _ => none))))))), (q22, .inl (cA22, (200, .inr (.inl (fun _ => 0))))), (q25, .inl (cA25, (0, .inl (fun _ => 0))))]) (va_A [(h0, .inr (5, [.null, .null, .null, .null, .null, .null, .null, .null, .null, .null, .int 0, .int 0, .int 0, .int 0, .int 0, .int 0, .int 0, .int 0, .int 0, .int 0, .long 0]))] sz)) 9 11452 (va_A [(h0, .inr (5, [.null, .null, .null, .null, .null, .null, .null, .null, .null, .null, .int 0, .int 0, .int 0, .int 0, .int 0, .int 0, .int 0, .int 0, .int 0, .int 0, .long 0]))] sz) := by
  refine Met.ofW (cc := cX4_init) (maxL := 2) (ret := none) (by decide) rfl ?_
  intro p e s m args below meth c s₁ B hml hv
  obtain ⟨rfl, hsz, hP, hK, hD0, hE⟩ := hv
  have hx := B.exec
  have hb := B.bytes
  have hr := B.returns
  have hts := atoms_spec (ws := ww_X4_init) B.pre
  have hown : s.vm.findClass RX4 = some m.cls := findClass_of_methodNamed B.named
  have hlocks := B.notSynchronized
  have hin : meth.name = "<init>" := (name_of_methodNamed B.named B.method).1
  subst hsz
  have hD := hD0.self (sz := s.heap.size)
  generalize hAe : va_A [(h0, .inr (5, [.null, .null, .null, .null, .null, .null, .null, .null, .null, .null, .int 0, .int 0, .int 0, .int 0, .int 0, .int 0, .int 0, .int 0, .int 0, .int 0, .long 0]))] s.heap.size = A at hD hE ⊢
  have hA : ∀ q : Nat, s.heap.size ≤ q → A q := fun q h => by rw [← hAe]; exact Or.inr h
  have hS : va_S A s.heap s.heap [] := va_S.rf
  have hP : va_P (dC, dI) vwCl [(h0, .inr (5, [.null, .null, .null, .null, .null, .null, .null, .null, .null, .null, .int 0, .int 0, .int 0, .int 0, .int 0, .int 0, .int 0, .int 0, .int 0, .int 0, .long 0]))] s.heap := hP
  have hl := lv_entry ([.ref h0, .ref h1]) (n := 2) (Nat.le_of_ble_eq_true rfl)
  rw [lg_entry_eq]
  generalize (lg_sl ([.ref h0, .ref h1]) ++ List.replicate (2 - (lg_sl ([.ref h0, .ref h1])).length) Slot.unset).toArray = ls at hl ⊢
  have hl : lv_has ls 2 [(0, .ref h0), (1, .ref h1)] := hl
  refine lv_aload_n hx hb dX4_init_0 rfl (lv_at hl 0 rfl) ?_
  refine W.objInit hx hb hown (hts _ (List.mem_cons_of_mem _ (List.mem_append_left _ (List.mem_of_getElem? (i := 0) rfl)))) (hts _ (List.mem_cons_of_mem _ (List.mem_append_left _ (List.mem_of_getElem? (i := 1) rfl)))) (hts _ (List.mem_cons_of_mem _ (List.mem_append_left _ (List.mem_of_getElem? (i := 2) rfl)))) rfl (by rw [hml]; exact hl.1) rfl dX4_init_1 (Nat.le_of_ble_eq_true rfl) (Nat.le_of_ble_eq_true rfl) ?_
  refine W.eq (g2 := F0 m 4 ls []) rfl ?_
  refine lv_aload_n hx hb dX4_init_4 rfl (lv_at hl 0 rfl) ?_
  refine lv_sipush (v := 1800) hx hb dX4_init_5 (by decide) ?_
  refine va_newa (ty := .long) (N' := 1800) (a0 := (1800, .inr (.inl (fun _ => 0)))) hx hb (hts _ (List.mem_cons_of_mem _ (List.mem_append_left _ (List.mem_of_getElem? (i := 3) rfl)))) rfl hK hP hD hS hA (fun _ => rfl) (by decide) (by decide) (by decide) (Nat.le_of_ble_eq_true rfl) (Nat.le_of_ble_eq_true rfl) dX4_init_8 (fun q1 cA1 H2 hK2 hP2 hD2 hS2 => ?_)
  refine W.widen (k := 1) (n := 1800) (Nat.le_of_ble_eq_true rfl) (Nat.le_of_ble_eq_true rfl) ?_
  clear hP hD hS hK
  replace hK2 : va_K (dC, dI) vwCl [(cA1, .long)] s := hK2
  replace hP2 : va_P (dC, dI) vwCl [(h0, .inr (5, [.null, .null, .null, .null, .null, .null, .null, .null, .null, .null, .int 0, .int 0, .int 0, .int 0, .int 0, .int 0, .int 0, .int 0, .int 0, .int 0, .long 0])), (q1, .inl (cA1, (1800, .inr (.inl (fun _ => 0)))))] H2 := hP2
  replace hD2 : va_D A [(h0, .inr (5, [.null, .null, .null, .null, .null, .null, .null, .null, .null, .null, .int 0, .int 0, .int 0, .int 0, .int 0, .int 0, .int 0, .int 0, .int 0, .int 0, .long 0])), (q1, .inl (cA1, (1800, .inr (.inl (fun _ => 0)))))] := hD2
  refine va_putF (D := (dC, dI)) (ci := 5) (v := .ref q1) (ty := tyX4 0) (C := RX4) (T := TX4) (N := 21) hx hb hts (fun w h => List.mem_cons_of_mem _ (List.mem_append_right _ h)) tyX4 tyX4_ok nmX4 hown hK2 hP2 hD2 hS2 0 rfl rfl 0 (by decide) (hts _ (List.mem_cons_of_mem _ (List.mem_append_left _ (List.mem_of_getElem? (i := 4) rfl)))) (fun _ h9 => h9) rfl hin rfl (tyX4_ok 0 (by decide)) rfl rfl (Nat.le_of_ble_eq_true rfl) dX4_init_10 (fun H3 lo3 hP3 hD3 hS3 => ?_)
  clear hP2 hD2 hS2 H2
  replace hP3 : va_P (dC, dI) vwCl [(h0, .inr (5, [.ref q1, .null, .null, .null, .null, .null, .null, .null, .null, .null, .int 0, .int 0, .int 0, .int 0, .int 0, .int 0, .int 0, .int 0, .int 0, .int 0, .long 0])), (q1, .inl (cA1, (1800, .inr (.inl (fun _ => 0)))))] H3 := hP3
  replace hD3 : va_D A [(h0, .inr (5, [.ref q1, .null, .null, .null, .null, .null, .null, .null, .null, .null, .int 0, .int 0, .int 0, .int 0, .int 0, .int 0, .int 0, .int 0, .int 0, .int 0, .long 0])), (q1, .inl (cA1, (1800, .inr (.inl (fun _ => 0)))))] := hD3
  refine lv_aload_n hx hb dX4_init_13 rfl (lv_at hl 0 rfl) ?_
  refine lv_sipush (v := 7500) hx hb dX4_init_14 (by decide) ?_
  refine va_newa (ty := .long) (N' := 7500) (a0 := (7500, .inr (.inl (fun _ => 0)))) hx hb (hts _ (List.mem_cons_of_mem _ (List.mem_append_left _ (List.mem_of_getElem? (i := 3) rfl)))) rfl hK2 hP3 hD3 hS3 hA (fun _ => rfl) (by decide) (by decide) (by decide) (Nat.le_of_ble_eq_true rfl) (Nat.le_of_ble_eq_true rfl) dX4_init_17 (fun q4 cA4 H5 hK5 hP5 hD5 hS5 => ?_)
  refine W.widen (k := 2) (n := 9300) (Nat.le_of_ble_eq_true rfl) (Nat.le_of_ble_eq_true rfl) ?_
  clear hP3 hD3 hS3 hK2 H3
  replace hK5 : va_K (dC, dI) vwCl [(cA1, .long), (cA4, .long)] s := hK5
  replace hP5 : va_P (dC, dI) vwCl [(h0, .inr (5, [.ref q1, .null, .null, .null, .null, .null, .null, .null, .null, .null, .int 0, .int 0, .int 0, .int 0, .int 0, .int 0, .int 0, .int 0, .int 0, .int 0, .long 0])), (q1, .inl (cA1, (1800, .inr (.inl (fun _ => 0))))), (q4, .inl (cA4, (7500, .inr (.inl (fun _ => 0)))))] H5 := hP5
  replace hD5 : va_D A [(h0, .inr (5, [.ref q1, .null, .null, .null, .null, .null, .null, .null, .null, .null, .int 0, .int 0, .int 0, .int 0, .int 0, .int 0, .int 0, .int 0, .int 0, .int 0, .long 0])), (q1, .inl (cA1, (1800, .inr (.inl (fun _ => 0))))), (q4, .inl (cA4, (7500, .inr (.inl (fun _ => 0)))))] := hD5
  refine va_putF (D := (dC, dI)) (ci := 5) (v := .ref q4) (ty := tyX4 1) (C := RX4) (T := TX4) (N := 21) hx hb hts (fun w h => List.mem_cons_of_mem _ (List.mem_append_right _ h)) tyX4 tyX4_ok nmX4 hown hK5 hP5 hD5 hS5 0 rfl rfl 1 (by decide) (hts _ (List.mem_cons_of_mem _ (List.mem_append_left _ (List.mem_of_getElem? (i := 5) rfl)))) (fun _ h9 => h9) rfl hin rfl (tyX4_ok 1 (by decide)) rfl rfl (Nat.le_of_ble_eq_true rfl) dX4_init_19 (fun H6 lo6 hP6 hD6 hS6 => ?_)
  clear hP5 hD5 hS5 H5 lo3
  replace hP6 : va_P (dC, dI) vwCl [(h0, .inr (5, [.ref q1, .ref q4, .null, .null, .null, .null, .null, .null, .null, .null, .int 0, .int 0, .int 0, .int 0, .int 0, .int 0, .int 0, .int 0, .int 0, .int 0, .long 0])), (q1, .inl (cA1, (1800, .inr (.inl (fun _ => 0))))), (q4, .inl (cA4, (7500, .inr (.inl (fun _ => 0)))))] H6 := hP6
  replace hD6 : va_D A [(h0, .inr (5, [.ref q1, .ref q4, .null, .null, .null, .null, .null, .null, .null, .null, .int 0, .int 0, .int 0, .int 0, .int 0, .int 0, .int 0, .int 0, .int 0, .int 0, .long 0])), (q1, .inl (cA1, (1800, .inr (.inl (fun _ => 0))))), (q4, .inl (cA4, (7500, .inr (.inl (fun _ => 0)))))] := hD6
  refine lv_aload_n hx hb dX4_init_22 rfl (lv_at hl 0 rfl) ?_
  refine lv_bipush (v := 31) hx hb dX4_init_23 (by decide) ?_
  refine va_newa (ty := .int) (N' := 31) (a0 := (31, .inl (fun _ => 0))) hx hb (hts _ (List.mem_cons_of_mem _ (List.mem_append_left _ (List.mem_of_getElem? (i := 6) rfl)))) rfl hK5 hP6 hD6 hS6 hA (fun _ => rfl) (by decide) (by decide) (by decide) (Nat.le_of_ble_eq_true rfl) (Nat.le_of_ble_eq_true rfl) dX4_init_25 (fun q7 cA7 H8 hK8 hP8 hD8 hS8 => ?_)
  refine W.widen (k := 3) (n := 9331) (Nat.le_of_ble_eq_true rfl) (Nat.le_of_ble_eq_true rfl) ?_
  clear hP6 hD6 hS6 hK5 H6
  replace hK8 : va_K (dC, dI) vwCl [(cA1, .long), (cA4, .long), (cA7, .int)] s := hK8
  replace hP8 : va_P (dC, dI) vwCl [(h0, .inr (5, [.ref q1, .ref q4, .null, .null, .null, .null, .null, .null, .null, .null, .int 0, .int 0, .int 0, .int 0, .int 0, .int 0, .int 0, .int 0, .int 0, .int 0, .long 0])), (q1, .inl (cA1, (1800, .inr (.inl (fun _ => 0))))), (q4, .inl (cA4, (7500, .inr (.inl (fun _ => 0))))), (q7, .inl (cA7, (31, .inl (fun _ => 0))))] H8 := hP8
  replace hD8 : va_D A [(h0, .inr (5, [.ref q1, .ref q4, .null, .null, .null, .null, .null, .null, .null, .null, .int 0, .int 0, .int 0, .int 0, .int 0, .int 0, .int 0, .int 0, .int 0, .int 0, .long 0])), (q1, .inl (cA1, (1800, .inr (.inl (fun _ => 0))))), (q4, .inl (cA4, (7500, .inr (.inl (fun _ => 0))))), (q7, .inl (cA7, (31, .inl (fun _ => 0))))] := hD8
  refine va_putF (D := (dC, dI)) (ci := 5) (v := .ref q7) (ty := tyX4 2) (C := RX4) (T := TX4) (N := 21) hx hb hts (fun w h => List.mem_cons_of_mem _ (List.mem_append_right _ h)) tyX4 tyX4_ok nmX4 hown hK8 hP8 hD8 hS8 0 rfl rfl 2 (by decide) (hts _ (List.mem_cons_of_mem _ (List.mem_append_left _ (List.mem_of_getElem? (i := 7) rfl)))) (fun _ h9 => h9) rfl hin rfl (tyX4_ok 2 (by decide)) rfl rfl (Nat.le_of_ble_eq_true rfl) dX4_init_27 (fun H9 lo9 hP9 hD9 hS9 => ?_)
  clear hP8 hD8 hS8 H8 lo6
  replace hP9 : va_P (dC, dI) vwCl [(h0, .inr (5, [.ref q1, .ref q4, .ref q7, .null, .null, .null, .null, .null, .null, .null, .int 0, .int 0, .int 0, .int 0, .int 0, .int 0, .int 0, .int 0, .int 0, .int 0, .long 0])), (q1, .inl (cA1, (1800, .inr (.inl (fun _ => 0))))), (q4, .inl (cA4, (7500, .inr (.inl (fun _ => 0))))), (q7, .inl (cA7, (31, .inl (fun _ => 0))))] H9 := hP9
  replace hD9 : va_D A [(h0, .inr (5, [.ref q1, .ref q4, .ref q7, .null, .null, .null, .null, .null, .null, .null, .int 0, .int 0, .int 0, .int 0, .int 0, .int 0, .int 0, .int 0, .int 0, .int 0, .long 0])), (q1, .inl (cA1, (1800, .inr (.inl (fun _ => 0))))), (q4, .inl (cA4, (7500, .inr (.inl (fun _ => 0))))), (q7, .inl (cA7, (31, .inl (fun _ => 0))))] := hD9
  refine lv_aload_n hx hb dX4_init_30 rfl (lv_at hl 0 rfl) ?_
  refine lv_bipush (v := 31) hx hb dX4_init_31 (by decide) ?_
  refine va_newa (ty := .int) (N' := 31) (a0 := (31, .inl (fun _ => 0))) hx hb (hts _ (List.mem_cons_of_mem _ (List.mem_append_left _ (List.mem_of_getElem? (i := 6) rfl)))) rfl hK8 hP9 hD9 hS9 hA (fun _ => rfl) (by decide) (by decide) (by decide) (Nat.le_of_ble_eq_true rfl) (Nat.le_of_ble_eq_true rfl) dX4_init_33 (fun q10 cA10 H11 hK11 hP11 hD11 hS11 => ?_)
  refine W.widen (k := 4) (n := 9362) (Nat.le_of_ble_eq_true rfl) (Nat.le_of_ble_eq_true rfl) ?_
  clear hP9 hD9 hS9 hK8 H9
  replace hK11 : va_K (dC, dI) vwCl [(cA1, .long), (cA4, .long), (cA7, .int), (cA10, .int)] s := hK11
  replace hP11 : va_P (dC, dI) vwCl [(h0, .inr (5, [.ref q1, .ref q4, .ref q7, .null, .null, .null, .null, .null, .null, .null, .int 0, .int 0, .int 0, .int 0, .int 0, .int 0, .int 0, .int 0, .int 0, .int 0, .long 0])), (q1, .inl (cA1, (1800, .inr (.inl (fun _ => 0))))), (q4, .inl (cA4, (7500, .inr (.inl (fun _ => 0))))), (q7, .inl (cA7, (31, .inl (fun _ => 0)))), (q10, .inl (cA10, (31, .inl (fun _ => 0))))] H11 := hP11
  replace hD11 : va_D A [(h0, .inr (5, [.ref q1, .ref q4, .ref q7, .null, .null, .null, .null, .null, .null, .null, .int 0, .int 0, .int 0, .int 0, .int 0, .int 0, .int 0, .int 0, .int 0, .int 0, .long 0])), (q1, .inl (cA1, (1800, .inr (.inl (fun _ => 0))))), (q4, .inl (cA4, (7500, .inr (.inl (fun _ => 0))))), (q7, .inl (cA7, (31, .inl (fun _ => 0)))), (q10, .inl (cA10, (31, .inl (fun _ => 0))))] := hD11
  refine va_putF (D := (dC, dI)) (ci := 5) (v := .ref q10) (ty := tyX4 3) (C := RX4) (T := TX4) (N := 21) hx hb hts (fun w h => List.mem_cons_of_mem _ (List.mem_append_right _ h)) tyX4 tyX4_ok nmX4 hown hK11 hP11 hD11 hS11 0 rfl rfl 3 (by decide) (hts _ (List.mem_cons_of_mem _ (List.mem_append_left _ (List.mem_of_getElem? (i := 8) rfl)))) (fun _ h9 => h9) rfl hin rfl (tyX4_ok 3 (by decide)) rfl rfl (Nat.le_of_ble_eq_true rfl) dX4_init_35 (fun H12 lo12 hP12 hD12 hS12 => ?_)
  clear hP11 hD11 hS11 H11 lo9
  replace hP12 : va_P (dC, dI) vwCl [(h0, .inr (5, [.ref q1, .ref q4, .ref q7, .ref q10, .null, .null, .null, .null, .null, .null, .int 0, .int 0, .int 0, .int 0, .int 0, .int 0, .int 0, .int 0, .int 0, .int 0, .long 0])), (q1, .inl (cA1, (1800, .inr (.inl (fun _ => 0))))), (q4, .inl (cA4, (7500, .inr (.inl (fun _ => 0))))), (q7, .inl (cA7, (31, .inl (fun _ => 0)))), (q10, .inl (cA10, (31, .inl (fun _ => 0))))] H12 := hP12
  replace hD12 : va_D A [(h0, .inr (5, [.ref q1, .ref q4, .ref q7, .ref q10, .null, .null, .null, .null, .null, .null, .int 0, .int 0, .int 0, .int 0, .int 0, .int 0, .int 0, .int 0, .int 0, .int 0, .long 0])), (q1, .inl (cA1, (1800, .inr (.inl (fun _ => 0))))), (q4, .inl (cA4, (7500, .inr (.inl (fun _ => 0))))), (q7, .inl (cA7, (31, .inl (fun _ => 0)))), (q10, .inl (cA10, (31, .inl (fun _ => 0))))] := hD12
  refine lv_aload_n hx hb dX4_init_38 rfl (lv_at hl 0 rfl) ?_
  refine lv_sipush (v := 630) hx hb dX4_init_39 (by decide) ?_
  refine va_newa (ty := .int) (N' := 630) (a0 := (630, .inl (fun _ => 0))) hx hb (hts _ (List.mem_cons_of_mem _ (List.mem_append_left _ (List.mem_of_getElem? (i := 6) rfl)))) rfl hK11 hP12 hD12 hS12 hA (fun _ => rfl) (by decide) (by decide) (by decide) (Nat.le_of_ble_eq_true rfl) (Nat.le_of_ble_eq_true rfl) dX4_init_42 (fun q13 cA13 H14 hK14 hP14 hD14 hS14 => ?_)
  refine W.widen (k := 5) (n := 9992) (Nat.le_of_ble_eq_true rfl) (Nat.le_of_ble_eq_true rfl) ?_
  clear hP12 hD12 hS12 hK11 H12
  replace hK14 : va_K (dC, dI) vwCl [(cA1, .long), (cA4, .long), (cA7, .int), (cA10, .int), (cA13, .int)] s := hK14
  replace hP14 : va_P (dC, dI) vwCl [(h0, .inr (5, [.ref q1, .ref q4, .ref q7, .ref q10, .null, .null, .null, .null, .null, .null, .int 0, .int 0, .int 0, .int 0, .int 0, .int 0, .int 0, .int 0, .int 0, .int 0, .long 0])), (q1, .inl (cA1, (1800, .inr (.inl (fun _ => 0))))), (q4, .inl (cA4, (7500, .inr (.inl (fun _ => 0))))), (q7, .inl (cA7, (31, .inl (fun _ => 0)))), (q10, .inl (cA10, (31, .inl (fun _ => 0)))), (q13, .inl (cA13, (630, .inl (fun _ => 0))))] H14 := hP14
  replace hD14 : va_D A [(h0, .inr (5, [.ref q1, .ref q4, .ref q7, .ref q10, .null, .null, .null, .null, .null, .null, .int 0, .int 0, .int 0, .int 0, .int 0, .int 0, .int 0, .int 0, .int 0, .int 0, .long 0])), (q1, .inl (cA1, (1800, .inr (.inl (fun _ => 0))))), (q4, .inl (cA4, (7500, .inr (.inl (fun _ => 0))))), (q7, .inl (cA7, (31, .inl (fun _ => 0)))), (q10, .inl (cA10, (31, .inl (fun _ => 0)))), (q13, .inl (cA13, (630, .inl (fun _ => 0))))] := hD14
  refine va_putF (D := (dC, dI)) (ci := 5) (v := .ref q13) (ty := tyX4 4) (C := RX4) (T := TX4) (N := 21) hx hb hts (fun w h => List.mem_cons_of_mem _ (List.mem_append_right _ h)) tyX4 tyX4_ok nmX4 hown hK14 hP14 hD14 hS14 0 rfl rfl 4 (by decide) (hts _ (List.mem_cons_of_mem _ (List.mem_append_left _ (List.mem_of_getElem? (i := 9) rfl)))) (fun _ h9 => h9) rfl hin rfl (tyX4_ok 4 (by decide)) rfl rfl (Nat.le_of_ble_eq_true rfl) dX4_init_44 (fun H15 lo15 hP15 hD15 hS15 => ?_)
  clear hP14 hD14 hS14 H14 lo12
  replace hP15 : va_P (dC, dI) vwCl [(h0, .inr (5, [.ref q1, .ref q4, .ref q7, .ref q10, .ref q13, .null, .null, .null, .null, .null, .int 0, .int 0, .int 0, .int 0, .int 0, .int 0, .int 0, .int 0, .int 0, .int 0, .long 0])), (q1, .inl (cA1, (1800, .inr (.inl (fun _ => 0))))), (q4, .inl (cA4, (7500, .inr (.inl (fun _ => 0))))), (q7, .inl (cA7, (31, .inl (fun _ => 0)))), (q10, .inl (cA10, (31, .inl (fun _ => 0)))), (q13, .inl (cA13, (630, .inl (fun _ => 0))))] H15 := hP15
  replace hD15 : va_D A [(h0, .inr (5, [.ref q1, .ref q4, .ref q7, .ref q10, .ref q13, .null, .null, .null, .null, .null, .int 0, .int 0, .int 0, .int 0, .int 0, .int 0, .int 0, .int 0, .int 0, .int 0, .long 0])), (q1, .inl (cA1, (1800, .inr (.inl (fun _ => 0))))), (q4, .inl (cA4, (7500, .inr (.inl (fun _ => 0))))), (q7, .inl (cA7, (31, .inl (fun _ => 0)))), (q10, .inl (cA10, (31, .inl (fun _ => 0)))), (q13, .inl (cA13, (630, .inl (fun _ => 0))))] := hD15
  refine lv_aload_n hx hb dX4_init_47 rfl (lv_at hl 0 rfl) ?_
  refine lv_sipush (v := 630) hx hb dX4_init_48 (by decide) ?_
  refine va_newa (ty := .long) (N' := 630) (a0 := (630, .inr (.inl (fun _ => 0)))) hx hb (hts _ (List.mem_cons_of_mem _ (List.mem_append_left _ (List.mem_of_getElem? (i := 3) rfl)))) rfl hK14 hP15 hD15 hS15 hA (fun _ => rfl) (by decide) (by decide) (by decide) (Nat.le_of_ble_eq_true rfl) (Nat.le_of_ble_eq_true rfl) dX4_init_51 (fun q16 cA16 H17 hK17 hP17 hD17 hS17 => ?_)
  refine W.widen (k := 6) (n := 10622) (Nat.le_of_ble_eq_true rfl) (Nat.le_of_ble_eq_true rfl) ?_
  clear hP15 hD15 hS15 hK14 H15
  replace hK17 : va_K (dC, dI) vwCl [(cA1, .long), (cA4, .long), (cA7, .int), (cA10, .int), (cA13, .int), (cA16, .long)] s := hK17
  replace hP17 : va_P (dC, dI) vwCl [(h0, .inr (5, [.ref q1, .ref q4, .ref q7, .ref q10, .ref q13, .null, .null, .null, .null, .null, .int 0, .int 0, .int 0, .int 0, .int 0, .int 0, .int 0, .int 0, .int 0, .int 0, .long 0])), (q1, .inl (cA1, (1800, .inr (.inl (fun _ => 0))))), (q4, .inl (cA4, (7500, .inr (.inl (fun _ => 0))))), (q7, .inl (cA7, (31, .inl (fun _ => 0)))), (q10, .inl (cA10, (31, .inl (fun _ => 0)))), (q13, .inl (cA13, (630, .inl (fun _ => 0)))), (q16, .inl (cA16, (630, .inr (.inl (fun _ => 0)))))] H17 := hP17
  replace hD17 : va_D A [(h0, .inr (5, [.ref q1, .ref q4, .ref q7, .ref q10, .ref q13, .null, .null, .null, .null, .null, .int 0, .int 0, .int 0, .int 0, .int 0, .int 0, .int 0, .int 0, .int 0, .int 0, .long 0])), (q1, .inl (cA1, (1800, .inr (.inl (fun _ => 0))))), (q4, .inl (cA4, (7500, .inr (.inl (fun _ => 0))))), (q7, .inl (cA7, (31, .inl (fun _ => 0)))), (q10, .inl (cA10, (31, .inl (fun _ => 0)))), (q13, .inl (cA13, (630, .inl (fun _ => 0)))), (q16, .inl (cA16, (630, .inr (.inl (fun _ => 0)))))] := hD17
  refine va_putF (D := (dC, dI)) (ci := 5) (v := .ref q16) (ty := tyX4 5) (C := RX4) (T := TX4) (N := 21) hx hb hts (fun w h => List.mem_cons_of_mem _ (List.mem_append_right _ h)) tyX4 tyX4_ok nmX4 hown hK17 hP17 hD17 hS17 0 rfl rfl 5 (by decide) (hts _ (List.mem_cons_of_mem _ (List.mem_append_left _ (List.mem_of_getElem? (i := 10) rfl)))) (fun _ h9 => h9) rfl hin rfl (tyX4_ok 5 (by decide)) rfl rfl (Nat.le_of_ble_eq_true rfl) dX4_init_53 (fun H18 lo18 hP18 hD18 hS18 => ?_)
  clear hP17 hD17 hS17 H17 lo15
  replace hP18 : va_P (dC, dI) vwCl [(h0, .inr (5, [.ref q1, .ref q4, .ref q7, .ref q10, .ref q13, .ref q16, .null, .null, .null, .null, .int 0, .int 0, .int 0, .int 0, .int 0, .int 0, .int 0, .int 0, .int 0, .int 0, .long 0])), (q1, .inl (cA1, (1800, .inr (.inl (fun _ => 0))))), (q4, .inl (cA4, (7500, .inr (.inl (fun _ => 0))))), (q7, .inl (cA7, (31, .inl (fun _ => 0)))), (q10, .inl (cA10, (31, .inl (fun _ => 0)))), (q13, .inl (cA13, (630, .inl (fun _ => 0)))), (q16, .inl (cA16, (630, .inr (.inl (fun _ => 0)))))] H18 := hP18
  replace hD18 : va_D A [(h0, .inr (5, [.ref q1, .ref q4, .ref q7, .ref q10, .ref q13, .ref q16, .null, .null, .null, .null, .int 0, .int 0, .int 0, .int 0, .int 0, .int 0, .int 0, .int 0, .int 0, .int 0, .long 0])), (q1, .inl (cA1, (1800, .inr (.inl (fun _ => 0))))), (q4, .inl (cA4, (7500, .inr (.inl (fun _ => 0))))), (q7, .inl (cA7, (31, .inl (fun _ => 0)))), (q10, .inl (cA10, (31, .inl (fun _ => 0)))), (q13, .inl (cA13, (630, .inl (fun _ => 0)))), (q16, .inl (cA16, (630, .inr (.inl (fun _ => 0)))))] := hD18
  refine lv_aload_n hx hb dX4_init_56 rfl (lv_at hl 0 rfl) ?_
  refine lv_sipush (v := 630) hx hb dX4_init_57 (by decide) ?_
  refine va_newq (C := "PlainJava$Statement") (N' := 630) hx hb hown (hts _ (List.mem_cons_of_mem _ (List.mem_append_left _ (List.mem_of_getElem? (i := 11) rfl)))) hE.2.1 hK17 hP18 hD18 hS18 hA (by decide) (by decide) (by decide) (Nat.le_of_ble_eq_true rfl) (Nat.le_of_ble_eq_true rfl) dX4_init_60 (fun q19 cA19 H20 hK20 hP20 hD20 hS20 => ?_)
  refine W.widen (k := 7) (n := 11252) (Nat.le_of_ble_eq_true rfl) (Nat.le_of_ble_eq_true rfl) ?_
  clear hP18 hD18 hS18 hK17 H18
  replace hK20 : va_K (dC, dI) vwCl [(cA1, .long), (cA4, .long), (cA7, .int), (cA10, .int), (cA13, .int), (cA16, .long), (cA19, (.object "PlainJava$Statement"))] s := hK20
  replace hP20 : va_P (dC, dI) vwCl [(h0, .inr (5, [.ref q1, .ref q4, .ref q7, .ref q10, .ref q13, .ref q16, .null, .null, .null, .null, .int 0, .int 0, .int 0, .int 0, .int 0, .int 0, .int 0, .int 0, .int 0, .int 0, .long 0])), (q1, .inl (cA1, (1800, .inr (.inl (fun _ => 0))))), (q4, .inl (cA4, (7500, .inr (.inl (fun _ => 0))))), (q7, .inl (cA7, (31, .inl (fun _ => 0)))), (q10, .inl (cA10, (31, .inl (fun _ => 0)))), (q13, .inl (cA13, (630, .inl (fun _ => 0)))), (q16, .inl (cA16, (630, .inr (.inl (fun _ => 0))))), (q19, .inl (cA19, (630, .inr (.inr (.inr (.inr (fun _ => none)))))))] H20 := hP20
  replace hD20 : va_D A [(h0, .inr (5, [.ref q1, .ref q4, .ref q7, .ref q10, .ref q13, .ref q16, .null, .null, .null, .null, .int 0, .int 0, .int 0, .int 0, .int 0, .int 0, .int 0, .int 0, .int 0, .int 0, .long 0])), (q1, .inl (cA1, (1800, .inr (.inl (fun _ => 0))))), (q4, .inl (cA4, (7500, .inr (.inl (fun _ => 0))))), (q7, .inl (cA7, (31, .inl (fun _ => 0)))), (q10, .inl (cA10, (31, .inl (fun _ => 0)))), (q13, .inl (cA13, (630, .inl (fun _ => 0)))), (q16, .inl (cA16, (630, .inr (.inl (fun _ => 0))))), (q19, .inl (cA19, (630, .inr (.inr (.inr (.inr (fun _ => none)))))))] := hD20
  refine va_putF (D := (dC, dI)) (ci := 5) (v := .ref q19) (ty := tyX4 6) (C := RX4) (T := TX4) (N := 21) hx hb hts (fun w h => List.mem_cons_of_mem _ (List.mem_append_right _ h)) tyX4 tyX4_ok nmX4 hown hK20 hP20 hD20 hS20 0 rfl rfl 6 (by decide) (hts _ (List.mem_cons_of_mem _ (List.mem_append_left _ (List.mem_of_getElem? (i := 12) rfl)))) (fun _ h9 => h9) rfl hin rfl (tyX4_ok 6 (by decide)) rfl rfl (Nat.le_of_ble_eq_true rfl) dX4_init_63 (fun H21 lo21 hP21 hD21 hS21 => ?_)
  clear hP20 hD20 hS20 H20 lo18
  replace hP21 : va_P (dC, dI) vwCl [(h0, .inr (5, [.ref q1, .ref q4, .ref q7, .ref q10, .ref q13, .ref q16, .ref q19, .null, .null, .null, .int 0, .int 0, .int 0, .int 0, .int 0, .int 0, .int 0, .int 0, .int 0, .int 0, .long 0])), (q1, .inl (cA1, (1800, .inr (.inl (fun _ => 0))))), (q4, .inl (cA4, (7500, .inr (.inl (fun _ => 0))))), (q7, .inl (cA7, (31, .inl (fun _ => 0)))), (q10, .inl (cA10, (31, .inl (fun _ => 0)))), (q13, .inl (cA13, (630, .inl (fun _ => 0)))), (q16, .inl (cA16, (630, .inr (.inl (fun _ => 0))))), (q19, .inl (cA19, (630, .inr (.inr (.inr (.inr (fun _ => none)))))))] H21 := hP21
  replace hD21 : va_D A [(h0, .inr (5, [.ref q1, .ref q4, .ref q7, .ref q10, .ref q13, .ref q16, .ref q19, .null, .null, .null, .int 0, .int 0, .int 0, .int 0, .int 0, .int 0, .int 0, .int 0, .int 0, .int 0, .long 0])), (q1, .inl (cA1, (1800, .inr (.inl (fun _ => 0))))), (q4, .inl (cA4, (7500, .inr (.inl (fun _ => 0))))), (q7, .inl (cA7, (31, .inl (fun _ => 0)))), (q10, .inl (cA10, (31, .inl (fun _ => 0)))), (q13, .inl (cA13, (630, .inl (fun _ => 0)))), (q16, .inl (cA16, (630, .inr (.inl (fun _ => 0))))), (q19, .inl (cA19, (630, .inr (.inr (.inr (.inr (fun _ => none)))))))] := hD21
  refine lv_aload_n hx hb dX4_init_66 rfl (lv_at hl 0 rfl) ?_
  refine lv_sipush (v := 200) hx hb dX4_init_67 (by decide) ?_
  refine va_newa (ty := .long) (N' := 200) (a0 := (200, .inr (.inl (fun _ => 0)))) hx hb (hts _ (List.mem_cons_of_mem _ (List.mem_append_left _ (List.mem_of_getElem? (i := 3) rfl)))) rfl hK20 hP21 hD21 hS21 hA (fun _ => rfl) (by decide) (by decide) (by decide) (Nat.le_of_ble_eq_true rfl) (Nat.le_of_ble_eq_true rfl) dX4_init_70 (fun q22 cA22 H23 hK23 hP23 hD23 hS23 => ?_)
  refine W.widen (k := 8) (n := 11452) (Nat.le_of_ble_eq_true rfl) (Nat.le_of_ble_eq_true rfl) ?_
  clear hP21 hD21 hS21 hK20 H21
  replace hK23 : va_K (dC, dI) vwCl [(cA1, .long), (cA4, .long), (cA7, .int), (cA10, .int), (cA13, .int), (cA16, .long), (cA19, (.object "PlainJava$Statement")), (cA22, .long)] s := hK23
  replace hP23 : va_P (dC, dI) vwCl [(h0, .inr (5, [.ref q1, .ref q4, .ref q7, .ref q10, .ref q13, .ref q16, .ref q19, .null, .null, .null, .int 0, .int 0, .int 0, .int 0, .int 0, .int 0, .int 0, .int 0, .int 0, .int 0, .long 0])), (q1, .inl (cA1, (1800, .inr (.inl (fun _ => 0))))), (q4, .inl (cA4, (7500, .inr (.inl (fun _ => 0))))), (q7, .inl (cA7, (31, .inl (fun _ => 0)))), (q10, .inl (cA10, (31, .inl (fun _ => 0)))), (q13, .inl (cA13, (630, .inl (fun _ => 0)))), (q16, .inl (cA16, (630, .inr (.inl (fun _ => 0))))), (q19, .inl (cA19, (630, .inr (.inr (.inr (.inr (fun _ => none))))))), (q22, .inl (cA22, (200, .inr (.inl (fun _ => 0)))))] H23 := hP23
  replace hD23 : va_D A [(h0, .inr (5, [.ref q1, .ref q4, .ref q7, .ref q10, .ref q13, .ref q16, .ref q19, .null, .null, .null, .int 0, .int 0, .int 0, .int 0, .int 0, .int 0, .int 0, .int 0, .int 0, .int 0, .long 0])), (q1, .inl (cA1, (1800, .inr (.inl (fun _ => 0))))), (q4, .inl (cA4, (7500, .inr (.inl (fun _ => 0))))), (q7, .inl (cA7, (31, .inl (fun _ => 0)))), (q10, .inl (cA10, (31, .inl (fun _ => 0)))), (q13, .inl (cA13, (630, .inl (fun _ => 0)))), (q16, .inl (cA16, (630, .inr (.inl (fun _ => 0))))), (q19, .inl (cA19, (630, .inr (.inr (.inr (.inr (fun _ => none))))))), (q22, .inl (cA22, (200, .inr (.inl (fun _ => 0)))))] := hD23
  refine va_putF (D := (dC, dI)) (ci := 5) (v := .ref q22) (ty := tyX4 7) (C := RX4) (T := TX4) (N := 21) hx hb hts (fun w h => List.mem_cons_of_mem _ (List.mem_append_right _ h)) tyX4 tyX4_ok nmX4 hown hK23 hP23 hD23 hS23 0 rfl rfl 7 (by decide) (hts _ (List.mem_cons_of_mem _ (List.mem_append_left _ (List.mem_of_getElem? (i := 13) rfl)))) (fun _ h9 => h9) rfl hin rfl (tyX4_ok 7 (by decide)) rfl rfl (Nat.le_of_ble_eq_true rfl) dX4_init_72 (fun H24 lo24 hP24 hD24 hS24 => ?_)
  clear hP23 hD23 hS23 H23 lo21
  replace hP24 : va_P (dC, dI) vwCl [(h0, .inr (5, [.ref q1, .ref q4, .ref q7, .ref q10, .ref q13, .ref q16, .ref q19, .ref q22, .null, .null, .int 0, .int 0, .int 0, .int 0, .int 0, .int 0, .int 0, .int 0, .int 0, .int 0, .long 0])), (q1, .inl (cA1, (1800, .inr (.inl (fun _ => 0))))), (q4, .inl (cA4, (7500, .inr (.inl (fun _ => 0))))), (q7, .inl (cA7, (31, .inl (fun _ => 0)))), (q10, .inl (cA10, (31, .inl (fun _ => 0)))), (q13, .inl (cA13, (630, .inl (fun _ => 0)))), (q16, .inl (cA16, (630, .inr (.inl (fun _ => 0))))), (q19, .inl (cA19, (630, .inr (.inr (.inr (.inr (fun _ => none))))))), (q22, .inl (cA22, (200, .inr (.inl (fun _ => 0)))))] H24 := hP24
  replace hD24 : va_D A [(h0, .inr (5, [.ref q1, .ref q4, .ref q7, .ref q10, .ref q13, .ref q16, .ref q19, .ref q22, .null, .null, .int 0, .int 0, .int 0, .int 0, .int 0, .int 0, .int 0, .int 0, .int 0, .int 0, .long 0])), (q1, .inl (cA1, (1800, .inr (.inl (fun _ => 0))))), (q4, .inl (cA4, (7500, .inr (.inl (fun _ => 0))))), (q7, .inl (cA7, (31, .inl (fun _ => 0)))), (q10, .inl (cA10, (31, .inl (fun _ => 0)))), (q13, .inl (cA13, (630, .inl (fun _ => 0)))), (q16, .inl (cA16, (630, .inr (.inl (fun _ => 0))))), (q19, .inl (cA19, (630, .inr (.inr (.inr (.inr (fun _ => none))))))), (q22, .inl (cA22, (200, .inr (.inl (fun _ => 0)))))] := hD24
  refine lv_aload_n hx hb dX4_init_75 rfl (lv_at hl 0 rfl) ?_
  refine lv_iconst (v := 0) hx hb dX4_init_76 (by decide) ?_
  refine va_newa (ty := .int) (N' := 0) (a0 := (0, .inl (fun _ => 0))) hx hb (hts _ (List.mem_cons_of_mem _ (List.mem_append_left _ (List.mem_of_getElem? (i := 6) rfl)))) rfl hK23 hP24 hD24 hS24 hA (fun _ => rfl) (by decide) (by decide) (by decide) (Nat.le_of_ble_eq_true rfl) (Nat.le_of_ble_eq_true rfl) dX4_init_77 (fun q25 cA25 H26 hK26 hP26 hD26 hS26 => ?_)
  refine W.widen (k := 9) (n := 11452) (Nat.le_of_ble_eq_true rfl) (Nat.le_of_ble_eq_true rfl) ?_
  clear hP24 hD24 hS24 hK23 H24
  replace hK26 : va_K (dC, dI) vwCl [(cA1, .long), (cA4, .long), (cA7, .int), (cA10, .int), (cA13, .int), (cA16, .long), (cA19, (.object "PlainJava$Statement")), (cA22, .long), (cA25, .int)] s := hK26
  replace hP26 : va_P (dC, dI) vwCl [(h0, .inr (5, [.ref q1, .ref q4, .ref q7, .ref q10, .ref q13, .ref q16, .ref q19, .ref q22, .null, .null, .int 0, .int 0, .int 0, .int 0, .int 0, .int 0, .int 0, .int 0, .int 0, .int 0, .long 0])), (q1, .inl (cA1, (1800, .inr (.inl (fun _ => 0))))), (q4, .inl (cA4, (7500, .inr (.inl (fun _ => 0))))), (q7, .inl (cA7, (31, .inl (fun _ => 0)))), (q10, .inl (cA10, (31, .inl (fun _ => 0)))), (q13, .inl (cA13, (630, .inl (fun _ => 0)))), (q16, .inl (cA16, (630, .inr (.inl (fun _ => 0))))), (q19, .inl (cA19, (630, .inr (.inr (.inr (.inr (fun _ => none))))))), (q22, .inl (cA22, (200, .inr (.inl (fun _ => 0))))), (q25, .inl (cA25, (0, .inl (fun _ => 0))))] H26 := hP26
  replace hD26 : va_D A [(h0, .inr (5, [.ref q1, .ref q4, .ref q7, .ref q10, .ref q13, .ref q16, .ref q19, .ref q22, .null, .null, .int 0, .int 0, .int 0, .int 0, .int 0, .int 0, .int 0, .int 0, .int 0, .int 0, .long 0])), (q1, .inl (cA1, (1800, .inr (.inl (fun _ => 0))))), (q4, .inl (cA4, (7500, .inr (.inl (fun _ => 0))))), (q7, .inl (cA7, (31, .inl (fun _ => 0)))), (q10, .inl (cA10, (31, .inl (fun _ => 0)))), (q13, .inl (cA13, (630, .inl (fun _ => 0)))), (q16, .inl (cA16, (630, .inr (.inl (fun _ => 0))))), (q19, .inl (cA19, (630, .inr (.inr (.inr (.inr (fun _ => none))))))), (q22, .inl (cA22, (200, .inr (.inl (fun _ => 0))))), (q25, .inl (cA25, (0, .inl (fun _ => 0))))] := hD26
  refine va_put (D := (dC, dI)) (ci := 5) (v := .ref q25) (ty := tyX4 9) (C := RX4) (T := TX4) (N := 21) hx hb hts (fun w h => List.mem_cons_of_mem _ (List.mem_append_right _ h)) tyX4 tyX4_ok nmX4 hown hK26 hP26 hD26 hS26 0 rfl rfl 9 (by decide) (hts _ (List.mem_cons_of_mem _ (List.mem_append_left _ (List.mem_of_getElem? (i := 14) rfl)))) (fun _ h9 => h9) rfl (tyX4_ok 9 (by decide)) rfl rfl (Nat.le_of_ble_eq_true rfl) dX4_init_79 (fun H27 lo27 hP27 hD27 hS27 => ?_)
  clear hP26 hD26 hS26 H26 lo24
  replace hP27 : va_P (dC, dI) vwCl [(h0, .inr (5, [.ref q1, .ref q4, .ref q7, .ref q10, .ref q13, .ref q16, .ref q19, .ref q22, .null, .ref q25, .int 0, .int 0, .int 0, .int 0, .int 0, .int 0, .int 0, .int 0, .int 0, .int 0, .long 0])), (q1, .inl (cA1, (1800, .inr (.inl (fun _ => 0))))), (q4, .inl (cA4, (7500, .inr (.inl (fun _ => 0))))), (q7, .inl (cA7, (31, .inl (fun _ => 0)))), (q10, .inl (cA10, (31, .inl (fun _ => 0)))), (q13, .inl (cA13, (630, .inl (fun _ => 0)))), (q16, .inl (cA16, (630, .inr (.inl (fun _ => 0))))), (q19, .inl (cA19, (630, .inr (.inr (.inr (.inr (fun _ => none))))))), (q22, .inl (cA22, (200, .inr (.inl (fun _ => 0))))), (q25, .inl (cA25, (0, .inl (fun _ => 0))))] H27 := hP27
  replace hD27 : va_D A [(h0, .inr (5, [.ref q1, .ref q4, .ref q7, .ref q10, .ref q13, .ref q16, .ref q19, .ref q22, .null, .ref q25, .int 0, .int 0, .int 0, .int 0, .int 0, .int 0, .int 0, .int 0, .int 0, .int 0, .long 0])), (q1, .inl (cA1, (1800, .inr (.inl (fun _ => 0))))), (q4, .inl (cA4, (7500, .inr (.inl (fun _ => 0))))), (q7, .inl (cA7, (31, .inl (fun _ => 0)))), (q10, .inl (cA10, (31, .inl (fun _ => 0)))), (q13, .inl (cA13, (630, .inl (fun _ => 0)))), (q16, .inl (cA16, (630, .inr (.inl (fun _ => 0))))), (q19, .inl (cA19, (630, .inr (.inr (.inr (.inr (fun _ => none))))))), (q22, .inl (cA22, (200, .inr (.inl (fun _ => 0))))), (q25, .inl (cA25, (0, .inl (fun _ => 0))))] := hD27
  refine lv_aload_n hx hb dX4_init_82 rfl (lv_at hl 0 rfl) ?_
  refine lv_aload_n hx hb dX4_init_83 rfl (lv_at hl 1 rfl) ?_
  refine va_putF (D := (dC, dI)) (ci := 5) (v := .ref h1) (ty := tyX4 8) (C := RX4) (T := TX4) (N := 21) hx hb hts (fun w h => List.mem_cons_of_mem _ (List.mem_append_right _ h)) tyX4 tyX4_ok nmX4 hown hK26 hP27 hD27 hS27 0 rfl rfl 8 (by decide) (hts _ (List.mem_cons_of_mem _ (List.mem_append_left _ (List.mem_of_getElem? (i := 15) rfl)))) (fun _ h9 => h9) rfl hin rfl (tyX4_ok 8 (by decide)) rfl rfl (Nat.le_of_ble_eq_true rfl) dX4_init_84 (fun H28 lo28 hP28 hD28 hS28 => ?_)
  clear hP27 hD27 hS27 H27 lo27
  replace hP28 : va_P (dC, dI) vwCl [(h0, .inr (5, [.ref q1, .ref q4, .ref q7, .ref q10, .ref q13, .ref q16, .ref q19, .ref q22, .ref h1, .ref q25, .int 0, .int 0, .int 0, .int 0, .int 0, .int 0, .int 0, .int 0, .int 0, .int 0, .long 0])), (q1, .inl (cA1, (1800, .inr (.inl (fun _ => 0))))), (q4, .inl (cA4, (7500, .inr (.inl (fun _ => 0))))), (q7, .inl (cA7, (31, .inl (fun _ => 0)))), (q10, .inl (cA10, (31, .inl (fun _ => 0)))), (q13, .inl (cA13, (630, .inl (fun _ => 0)))), (q16, .inl (cA16, (630, .inr (.inl (fun _ => 0))))), (q19, .inl (cA19, (630, .inr (.inr (.inr (.inr (fun _ => none))))))), (q22, .inl (cA22, (200, .inr (.inl (fun _ => 0))))), (q25, .inl (cA25, (0, .inl (fun _ => 0))))] H28 := hP28
  replace hD28 : va_D A [(h0, .inr (5, [.ref q1, .ref q4, .ref q7, .ref q10, .ref q13, .ref q16, .ref q19, .ref q22, .ref h1, .ref q25, .int 0, .int 0, .int 0, .int 0, .int 0, .int 0, .int 0, .int 0, .int 0, .int 0, .long 0])), (q1, .inl (cA1, (1800, .inr (.inl (fun _ => 0))))), (q4, .inl (cA4, (7500, .inr (.inl (fun _ => 0))))), (q7, .inl (cA7, (31, .inl (fun _ => 0)))), (q10, .inl (cA10, (31, .inl (fun _ => 0)))), (q13, .inl (cA13, (630, .inl (fun _ => 0)))), (q16, .inl (cA16, (630, .inr (.inl (fun _ => 0))))), (q19, .inl (cA19, (630, .inr (.inr (.inr (.inr (fun _ => none))))))), (q22, .inl (cA22, (200, .inr (.inl (fun _ => 0))))), (q25, .inl (cA25, (0, .inl (fun _ => 0))))] := hD28
  exact W.vret hx hb hr (fun t ht hW => ⟨⟨(), rfl, trivial, q1, cA1, q4, cA4, q7, cA7, q10, cA10, q13, cA13, q16, cA16, q19, cA19, q22, cA22, q25, cA25, by rw [ht]; exact hP28, va_K.moved hW.alike hK26, hD28⟩, hS28.F ht⟩) hS28.2.2 dX4_init_87
