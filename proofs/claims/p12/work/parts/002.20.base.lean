/-- a state of the reference: its ints (and booleans), its longs, its rows of ints (and booleans), its rows of longs, by the number of the field -/
abbrev RS : Type := (Nat → Int32) × (Nat → Int64) × (Nat → Nat → Int32) × (Nat → Nat → Int64)
def gI (σ : RS) (k : Nat) : Int32 := σ.1 k
def gL (σ : RS) (k : Nat) : Int64 := σ.2.1 k
def aI (σ : RS) (k : Nat) : Nat → Int32 := σ.2.2.1 k
def aL (σ : RS) (k : Nat) : Nat → Int64 := σ.2.2.2 k
theorem nb_eq {k : Nat} : Nat.beq k k = true := Nat.beq_refl k
theorem nb_ne {j k : Nat} (h : j ≠ k) : Nat.beq j k = false := by
  cases hb : Nat.beq j k with
  | false => rfl
  | true => exact absurd (Nat.eq_of_beq_eq_true hb) h
def sI (σ : RS) (k : Nat) (v : Int32) : RS := (fun j => match Nat.beq j k with
  | true => v
  | false => σ.1 j, σ.2.1, σ.2.2.1, σ.2.2.2)
def sL (σ : RS) (k : Nat) (v : Int64) : RS := (σ.1, fun j => match Nat.beq j k with
  | true => v
  | false => σ.2.1 j, σ.2.2.1, σ.2.2.2)
def sA (σ : RS) (k : Nat) (f : Nat → Int32) : RS := (σ.1, σ.2.1, fun j => match Nat.beq j k with
  | true => f
  | false => σ.2.2.1 j, σ.2.2.2)
def sM (σ : RS) (k : Nat) (f : Nat → Int64) : RS := (σ.1, σ.2.1, σ.2.2.1, fun j => match Nat.beq j k with
  | true => f
  | false => σ.2.2.2 j)
/-- kinds of its fields: 0 int, 1 boolean, 2 long, 3 row of ints, 4 of booleans, 5 of longs -/
def kds : List Nat := [3, 0, 0, 3, 3, 3, 3, 5, 3, 5, 4, 3, 0, 0, 0, 0, 0, 0, 0, 3, 3, 3, 3, 3, 3, 3, 3, 3, 3, 0, 3, 0, 0, 0, 1, 1, 0, 3, 3, 3, 3, 3, 0, 3, 3, 4, 3, 3, 3, 0, 3, 3, 3, 3, 3, 3, 3, 3, 3, 3, 3, 3, 0, 3, 3, 3, 0, 0, 1, 0, 3, 4, 5, 3, 0, 3, 3, 3, 4, 5, 3, 3, 3, 3, 4, 5, 4, 5, 3, 0, 3, 0, 1, 2, 2, 4, 5, 4, 5, 5, 0, 5, 5, 0, 3, 4, 3, 4, 5, 4, 5, 4, 0, 0, 0, 0, 1, 0, 3, 0, 0, 1, 3, 0, 5, 3, 3, 5, 0, 0, 5, 3, 3, 0, 3, 3, 3, 3, 3, 3, 5, 0, 0, 2, 0, 0, 0, 0, 0, 5]
def lns : List Nat := [2500, 0, 0, 2600, 2600, 2600, 2600, 2600, 2600, 2600, 2600, 2600, 0, 0, 0, 0, 0, 0, 0, 4000, 4000, 4000, 4000, 4000, 4000, 600, 600, 600, 600, 0, 600, 0, 0, 0, 0, 0, 0, 16, 16, 16, 16, 16, 0, 64, 64, 64, 64, 64, 64, 0, 600, 600, 600, 600, 600, 600, 600, 600, 600, 600, 600, 600, 0, 80, 80, 80, 0, 0, 0, 0, 700, 700, 700, 700, 0, 2000, 2000, 2000, 2000, 2000, 2600, 4000, 4000, 4000, 4000, 4000, 64, 64, 600, 0, 80, 0, 0, 0, 0, 600, 600, 600, 600, 600, 0, 300, 300, 0, 600, 600, 600, 600, 600, 2600, 2600, 2600, 0, 0, 0, 0, 0, 0, 2500, 0, 0, 0, 40, 0, 6, 4000, 300, 8000, 0, 0, 1860, 31, 31, 0, 2000, 2000, 2000, 2000, 2000, 2000, 2000, 0, 0, 0, 0, 0, 0, 0, 0, 200]
def arrs : List Nat := [0, 3, 4, 5, 6, 7, 8, 9, 10, 11, 19, 20, 21, 22, 23, 24, 25, 26, 27, 28, 30, 37, 38, 39, 40, 41, 43, 44, 45, 46, 47, 48, 50, 51, 52, 53, 54, 55, 56, 57, 58, 59, 60, 61, 63, 64, 65, 70, 71, 72, 73, 75, 76, 77, 78, 79, 80, 81, 82, 83, 84, 85, 86, 87, 88, 90, 95, 96, 97, 98, 99, 101, 102, 104, 105, 106, 107, 108, 109, 110, 111, 118, 122, 124, 125, 126, 127, 130, 131, 132, 134, 135, 136, 137, 138, 139, 140, 149]
def kd (k : Nat) : Nat := kds.getD k 9
def ln (k : Nat) : Nat := lns.getD k 0
def fv (ad : Nat → Nat) (σ : RS) (k : Nat) : Value := match kd k with
  | 0 => .int (gI σ k)
  | 1 => .int (gI σ k)
  | 2 => .long (gL σ k)
  | _ => .ref (ad k)
def fR (ad : Nat → Nat) (σ : RS) : List Value := (List.range 150).map (fv ad σ)
def ae (cA : Nat → ClassId) (ad : Nat → Nat) (σ : RS) (k : Nat) : Nat × va_E := (ad k, .inl (cA k, (ln k, match kd k with
  | 5 => .inr (.inl (aL σ k))
  | _ => .inl (aI σ k))))
def at12 (k : Nat) : FieldType := match kd k with
  | 3 => .int
  | 4 => .boolean
  | _ => .long
def RW (h : Nat) (ad : Nat → Nat) (cA : Nat → ClassId) (σ : RS) : va_W := (h, .inr (13, fR ad σ)) :: arrs.map (ae cA ad σ)
def RT (cA : Nat → ClassId) : List (ClassId × FieldType) := arrs.map (fun k => (cA k, at12 k))
theorem fR_len {ad : Nat → Nat} {σ : RS} : (fR ad σ).length = 150 := by simp [fR]
theorem fR_at {ad : Nat → Nat} {σ : RS} {k : Nat} (h : k < 150) : (fR ad σ)[k]? = some (fv ad σ k) := by
  unfold fR
  rw [List.getElem?_map, List.getElem?_range h]
  rfl
theorem RW_obj {h : Nat} {ad : Nat → Nat} {cA : Nat → ClassId} {σ : RS} : (RW h ad cA σ)[0]? = some (h, .inr (13, fR ad σ)) := rfl
theorem RW_arr {h : Nat} {ad : Nat → Nat} {cA : Nat → ClassId} {σ : RS} {i k : Nat} (hi : arrs[i]? = some k) : (RW h ad cA σ)[i + 1]? = some (ae cA ad σ k) := by
  unfold RW
  rw [List.getElem?_cons_succ, List.getElem?_map, hi]
  rfl
theorem RT_arr {cA : Nat → ClassId} {i k : Nat} (hi : arrs[i]? = some k) : (RT cA)[i]? = some (cA k, at12 k) := by
  unfold RT
  rw [List.getElem?_map, hi]
  rfl
theorem fR_set {ad : Nat → Nat} {σ τ : RS} {k : Nat} {v : Value} (hk : k < 150) (hv : fv ad τ k = v) (ho : ∀ i, i ≠ k → fv ad τ i = fv ad σ i) : (fR ad σ).set k v = fR ad τ := by
  apply List.ext_getElem?
  intro i
  rw [List.getElem?_set]
  by_cases e : k = i
  · subst e
    rw [if_pos rfl, fR_len, if_pos hk, fR_at hk, hv]
  · rw [if_neg e]
    unfold fR
    rw [List.getElem?_map, List.getElem?_map]
    cases hr : (List.range 150)[i]? with
    | none => rfl
    | some j =>
      have hj : j = i := by
        obtain ⟨h1, h2⟩ := List.getElem?_eq_some_iff.mp hr
        simpa using h2.symm
      subst hj
      show some _ = some _
      rw [ho j (fun q => e q.symm)]
theorem kd_lt {k n : Nat} (h : kd k = n) (hn : n ≠ 9) : k < 150 := by
  apply Nat.lt_of_not_le
  intro q
  apply hn
  rw [← h]
  unfold kd
  rw [List.getD_eq_getElem?_getD, List.getElem?_eq_none (show kds.length ≤ k from Nat.le_trans (by decide +kernel) q)]
  rfl
theorem RW_setI {h : Nat} {ad : Nat → Nat} {cA : Nat → ClassId} {σ : RS} {k : Nat} {x : Int32} (hk : kd k = 0 ∨ kd k = 1) : (RW h ad cA σ).set 0 (h, .inr (13, (fR ad σ).set k (.int x))) = RW h ad cA (sI σ k x) := by
  have hl : k < 150 := hk.elim (fun q => kd_lt q (by decide)) (fun q => kd_lt q (by decide))
  unfold RW
  rw [List.set_cons_zero, fR_set (τ := sI σ k x) hl]
  · rfl
  · unfold fv
    rcases hk with q | q <;> rw [q] <;> simp [gI, sI, nb_eq]
  · intro i hi
    unfold fv
    simp [gI, sI, nb_ne hi, gL]
theorem RW_setL {h : Nat} {ad : Nat → Nat} {cA : Nat → ClassId} {σ : RS} {k : Nat} {x : Int64} (hk : kd k = 2) : (RW h ad cA σ).set 0 (h, .inr (13, (fR ad σ).set k (.long x))) = RW h ad cA (sL σ k x) := by
  have hl : k < 150 := kd_lt hk (by decide)
  unfold RW
  rw [List.set_cons_zero, fR_set (τ := sL σ k x) hl]
  · rfl
  · unfold fv
    rw [hk]
    simp [gL, sL, nb_eq]
  · intro i hi
    unfold fv
    simp [gI, sL, nb_ne hi, gL]
theorem arrs_nd : arrs.Nodup := by decide +kernel
theorem ra_set {α : Type} {g g' : Nat → α} {i k : Nat} {v : α} (hi : arrs[i]? = some k) (hv : g' k = v) (ho : ∀ j, j ≠ k → g' j = g j) : (arrs.map g).set i v = arrs.map g' := by
  have hil : i < arrs.length := (List.getElem?_eq_some_iff.mp hi).1
  apply List.ext_getElem?
  intro j
  rw [List.getElem?_set, List.getElem?_map, List.getElem?_map]
  by_cases e : i = j
  · subst e
    rw [if_pos rfl, List.length_map, if_pos hil, hi, Option.map_some, hv]
  · rw [if_neg e]
    cases hj : arrs[j]? with
    | none => rfl
    | some q =>
      have hq : q ≠ k := by
        intro z
        subst z
        exact e ((List.getElem?_inj hil arrs_nd).mp (hi.trans hj.symm))
      show some _ = some _
      rw [ho q hq]
theorem RW_setA {h : Nat} {ad : Nat → Nat} {cA : Nat → ClassId} {σ : RS} {i k : Nat} {f : Nat → Int32} (hi : arrs[i]? = some k) (hk : kd k = 3 ∨ kd k = 4) : (RW h ad cA σ).set (i + 1) (ad k, .inl (cA k, (ln k, .inl f))) = RW h ad cA (sA σ k f) := by
  unfold RW
  rw [List.set_cons_succ, ra_set (g' := ae cA ad (sA σ k f)) hi]
  · rfl
  · unfold ae
    rcases hk with q | q <;> rw [q] <;> simp [aI, sA, nb_eq]
  · intro j hj
    unfold ae
    simp [aI, sA, nb_ne hj, aL]
theorem RW_setM {h : Nat} {ad : Nat → Nat} {cA : Nat → ClassId} {σ : RS} {i k : Nat} {f : Nat → Int64} (hi : arrs[i]? = some k) (hk : kd k = 5) : (RW h ad cA σ).set (i + 1) (ad k, .inl (cA k, (ln k, .inr (.inl f)))) = RW h ad cA (sM σ k f) := by
  unfold RW
  rw [List.set_cons_succ, ra_set (g' := ae cA ad (sM σ k f)) hi]
  · rfl
  · unfold ae
    rw [hk]
    simp [aL, sM, nb_eq]
  · intro j hj
    unfold ae
    simp [aL, sM, nb_ne hj, aI]
def ap (k : Nat) : Nat := arrs.idxOf k
theorem ap_ok : ∀ k, k < 150 → (kd k = 3 ∨ kd k = 4 ∨ kd k = 5) → arrs[ap k]? = some k := by decide +kernel
theorem fin_ok : ∀ k, k < 150 → kd k < 3 → (TX12 k).2.2.2 = false := by decide +kernel
theorem ty_ok0 : ∀ k, k < 150 → kd k = 0 → tyX12 k = .int := by decide +kernel
theorem ty_ok1 : ∀ k, k < 150 → kd k = 1 → tyX12 k = .boolean := by decide +kernel
theorem ty_ok2 : ∀ k, k < 150 → kd k = 2 → tyX12 k = .long := by decide +kernel
theorem own_ok : ∀ k, k < 150 → (TX12 k).1 = "PlainJavaModel" := by decide +kernel
def rPre (D : va_G) (h : Nat) (ad : Nat → Nat) (cA : Nat → ClassId) (σ : RS) (sz : Nat) (U : State) : Prop := U.heap.size = sz ∧ va_P D vwCl (RW h ad cA σ) U.heap ∧ va_K D vwCl (RT cA) U ∧ va_D (fun _ => True) (RW h ad cA σ)
def rPost (D : va_G) (h : Nat) (ad : Nat → Nat) (cA : Nat → ClassId) (σ : RS) (sz : Nat) (τ : RS) (t : State) : Prop := va_P D vwCl (RW h ad cA τ) t.heap ∧ va_K D vwCl (RT cA) t ∧ va_D (va_A (RW h ad cA σ) sz) (RW h ad cA τ)
/-- its methods: name, code, locals, answer, how many arguments -/
abbrev RM : Type := MethodName × ByteArray × Nat × Option FieldType × Nat
def mtab : List RM := [(yX12_feed, cX12_feed, 6, (some .int), 5), (yX12_lay, cX12_lay, 3, none, 1), (yX12_cut, cX12_cut, 2, (some .int), 1), (yX12_at, cX12_at, 2, (some .int), 1), (yX12_isLetter, cX12_isLetter, 2, (some .boolean), 1), (yX12_isDigit, cX12_isDigit, 2, (some .boolean), 1), (yX12_lexer, cX12_lexer, 4, none, 0), (yX12_word, cX12_word, 7, none, 1), (yX12_wordOf, cX12_wordOf, 3, (some .int), 1), (yX12_number, cX12_number, 7, none, 1), (yX12_character, cX12_character, 4, none, 1), (yX12_sign, cX12_sign, 10, none, 1), (yX12_wrong, cX12_wrong, 3, (some .boolean), 2), (yX12_cant, cX12_cant, 1, (some .boolean), 0), (yX12_isSign, cX12_isSign, 2, (some .boolean), 1), (yX12_isWord, cX12_isWord, 2, (some .boolean), 1), (yX12_isSignAt, cX12_isSignAt, 3, (some .boolean), 2), (yX12_take, cX12_take, 1, (some .boolean), 0), (yX12_want, cX12_want, 2, (some .boolean), 1), (yX12_enter, cX12_enter, 1, (some .boolean), 0), (yX12_emit, cX12_emit, 5, (some .int), 3), (yX12_emitExp, cX12_emitExp, 7, (some .int), 5), (yX12_strength, cX12_strength, 2, (some .int), 1), (yX12_isType, cX12_isType, 2, (some .boolean), 1), (yX12_isSetAt, cX12_isSetAt, 2, (some .boolean), 1), (yX12_push, cX12_push, 4, (some .boolean), 3), (yX12_whole, cX12_whole, 2, none, 1), (yX12_expression, cX12_expression, 3, (some .boolean), 0), (yX12_wait, cX12_wait, 2, (some .boolean), 1), (yX12_operand, cX12_operand, 6, (some .boolean), 1), (yX12_named, cX12_named, 5, (some .boolean), 1), (yX12_closeCall, cX12_closeCall, 3, (some .boolean), 0), (yX12_reduce, cX12_reduce, 8, none, 1), (yX12_complete, cX12_complete, 4, none, 0), (yX12_behind, cX12_behind, 6, (some .boolean), 0), (yX12_thing, cX12_thing, 4, (some .int), 2), (yX12_open, cX12_open, 4, (some .boolean), 3), (yX12_parse, cX12_parse, 1, (some .boolean), 0), (yX12_method, cX12_method, 5, (some .boolean), 0), (yX12_param, cX12_param, 5, (some .boolean), 2), (yX12_variable, cX12_variable, 5, (some .boolean), 3), (yX12_scope, cX12_scope, 2, (some .int), 0), (yX12_leave, cX12_leave, 4, none, 2), (yX12_isRow, cX12_isRow, 2, (some .boolean), 1), (yX12_piece, cX12_piece, 2, (some .boolean), 0), (yX12_grouped, cX12_grouped, 4, (some .boolean), 0), (yX12_isTold, cX12_isTold, 1, (some .boolean), 0), (yX12_told, cX12_told, 2, (some .boolean), 0), (yX12_declaration, cX12_declaration, 8, (some .boolean), 1), (yX12_statement, cX12_statement, 4, (some .boolean), 0), (yX12_plain, cX12_plain, 2, (some .boolean), 0), (yX12_pop, cX12_pop, 3, none, 0), (yX12_condition, cX12_condition, 1, (some .boolean), 0), (yX12_ifOf, cX12_ifOf, 4, (some .boolean), 0), (yX12_whileOf, cX12_whileOf, 4, (some .boolean), 0), (yX12_doOf, cX12_doOf, 4, (some .boolean), 0), (yX12_exps, cX12_exps, 2, (some .boolean), 0), (yX12_forOf, cX12_forOf, 6, (some .boolean), 0), (yX12_switchOf, cX12_switchOf, 4, (some .boolean), 0), (yX12_label, cX12_label, 5, (some .boolean), 0), (yX12_closeSwitch, cX12_closeSwitch, 3, (some .boolean), 0), (yX12_closed, cX12_closed, 2, (some .boolean), 1), (yX12_jump, cX12_jump, 8, (some .boolean), 0), (yX12_sameName, cX12_sameName, 3, (some .boolean), 2), (yX12_named_, cX12_named_, 5, (some .int), 2), (yX12_gives, cX12_gives, 6, (some .boolean), 0), (yX12_tryOf, cX12_tryOf, 4, (some .boolean), 0), (yX12_closeRow, cX12_closeRow, 5, (some .boolean), 1), (yX12_closeTry, cX12_closeTry, 4, (some .boolean), 3), (yX12_finished, cX12_finished, 5, (some .boolean), 0), (yX12_err, cX12_err, 4, none, 2), (yX12_find, cX12_find, 3, (some .int), 1), (yX12_isNumber, cX12_isNumber, 2, (some .boolean), 1), (yX12_widens, cX12_widens, 3, (some .boolean), 2), (yX12_holdsValue, cX12_holdsValue, 4, (some .boolean), 2), (yX12_fits, cX12_fits, 4, (some .boolean), 2), (yX12_cast, cX12_cast, 4, (some .long), 2), (yX12_lie, cX12_lie, 6, none, 4), (yX12_none, cX12_none, 2, none, 1), (yX12_isBad, cX12_isBad, 2, (some .boolean), 1), (yX12_need, cX12_need, 3, (some .boolean), 2), (yX12_wide, cX12_wide, 2, (some .int), 1), (yX12_judgeAll, cX12_judgeAll, 2, none, 0), (yX12_typeOfParam, cX12_typeOfParam, 3, (some .int), 2), (yX12_paramsOf, cX12_paramsOf, 2, (some .int), 1), (yX12_resultOf, cX12_resultOf, 2, (some .int), 1), (yX12_isNamed, cX12_isNamed, 5, (some .boolean), 2), (yX12_methodsTold, cX12_methodsTold, 6, none, 0), (yX12_judgeExp, cX12_judgeExp, 9, none, 1), (yX12_literal, cX12_literal, 5, none, 2), (yX12_step, cX12_step, 5, none, 2), (yX12_unary, cX12_unary, 8, none, 1), (yX12_casts, cX12_casts, 2, none, 1), (yX12_isShift, cX12_isShift, 2, (some .boolean), 1), (yX12_isBits, cX12_isBits, 2, (some .boolean), 1), (yX12_binary, cX12_binary, 10, none, 1), (yX12_pair, cX12_pair, 3, (some .boolean), 2), (yX12_reckon, cX12_reckon, 7, (some .long), 4), (yX12_choice, cX12_choice, 10, none, 1), (yX12_isHeld, cX12_isHeld, 3, (some .boolean), 2), (yX12_assign, cX12_assign, 9, none, 2), (yX12_takes, cX12_takes, 6, (some .boolean), 3), (yX12_isCloser, cX12_isCloser, 5, (some .boolean), 2), (yX12_isMethod, cX12_isMethod, 2, (some .boolean), 1), (yX12_call, cX12_call, 10, none, 2), (yX12_judgeStep, cX12_judgeStep, 7, none, 1), (yX12_keep, cX12_keep, 2, none, 1), (yX12_declared, cX12_declared, 3, none, 2), (yX12_cased, cX12_cased, 4, none, 2), (yX12_returns, cX12_returns, 4, none, 2), (yX12_lateErr, cX12_lateErr, 4, none, 2), (yX12_now, cX12_now, 1, (some .long), 0), (yX12_be, cX12_be, 3, none, 1), (yX12_flow, cX12_flow, 3, none, 0), (yX12_start, cX12_start, 5, none, 1), (yX12_value, cX12_value, 3, none, 2), (yX12_sided, cX12_sided, 4, none, 1), (yX12_flowExp, cX12_flowExp, 7, none, 1), (yX12_findAt, cX12_findAt, 2, (some .int), 1), (yX12_come, cX12_come, 6, (some .long), 2), (yX12_dead, cX12_dead, 1, none, 0), (yX12_flowStep, cX12_flowStep, 8, (some .int), 1), (yX12_ended, cX12_ended, 3, none, 1), (yX12_read, cX12_read, 5, (some .int), 0), (yX12_place, cX12_place, 1, (some .int), 0), (yX12_isGood, cX12_isGood, 1, (some .boolean), 0), (yX12_judge, cX12_judge, 2, (some .int), 0), (yX12_tokens, cX12_tokens, 1, (some .int), 0), (yX12_told_, cX12_told_, 2, (some .int), 1), (yX12_isToken, cX12_isToken, 2, (some .boolean), 1), (yX12_token, cX12_token, 3, (some .int), 2), (yX12_method_, cX12_method_, 3, (some .int), 2), (yX12_variable_, cX12_variable_, 3, (some .int), 2), (yX12_means, cX12_means, 2, (some .int), 1), (yX12_expAt, cX12_expAt, 5, (some .int), 2), (yX12_type, cX12_type, 4, (some .int), 2), (yX12_constant, cX12_constant, 4, (some .long), 2), (yX12_ends, cX12_ends, 2, (some .int), 1), (yX12_assigned, cX12_assigned, 3, (some .int), 2), (yX12_argument, cX12_argument, 4, (some .int), 2), (yX12_input, cX12_input, 2, (some .int), 1), (yX12_drain, cX12_drain, 2, (some .int), 0), (yX12_links, cX12_links, 4, none, 0), (yX12_pop1, cX12_pop1, 1, (some .long), 0), (yX12_put, cX12_put, 3, none, 1), (yX12_count1, cX12_count1, 1, (some .boolean), 0), (yX12_slot, cX12_slot, 2, (some .int), 1), (yX12_leave_, cX12_leave_, 7, none, 3), (yX12_back, cX12_back, 5, none, 1), (yX12_raise, cX12_raise, 5, none, 1), (yX12_begin, cX12_begin, 3, (some .boolean), 2), (yX12_run, cX12_run, 4, (some .int), 2), (yX12_work, cX12_work, 16, none, 1), (yX12_operate, cX12_operate, 7, none, 4), (yX12_call0, cX12_call0, 6, none, 1), (yX12_next, cX12_next, 1, (some .long), 0), (yX12_tell, cX12_tell, 3, none, 1), (yX12_workStep, cX12_workStep, 7, none, 2), (yX12_over, cX12_over, 2, none, 0), (yX12_choose, cX12_choose, 5, none, 2), (yX12_ran, cX12_ran, 2, (some .long), 1)]
def flk : List (Nat × Nat) := [(7, 0), (13, 3), (16, 4), (19, 5), (22, 6), (25, 7), (29, 8), (32, 9), (35, 10), (39, 11), (42, 19), (45, 20), (48, 21), (51, 22), (54, 23), (57, 24), (60, 25), (63, 26), (66, 27), (69, 28), (72, 30), (75, 37), (78, 38), (81, 39), (84, 40), (87, 41), (90, 43), (93, 44), (96, 45), (99, 46), (102, 47), (105, 48), (108, 50), (111, 51), (114, 52), (117, 53), (120, 54), (123, 55), (126, 56), (129, 57), (132, 58), (135, 59), (138, 60), (141, 61), (144, 63), (147, 64), (150, 65), (153, 70), (156, 71), (159, 72), (162, 73), (165, 75), (168, 76), (171, 77), (174, 78), (177, 79), (180, 80), (183, 81), (186, 82), (189, 83), (192, 84), (195, 85), (198, 86), (201, 87), (204, 88), (207, 90), (210, 95), (213, 96), (216, 97), (219, 98), (222, 99), (225, 101), (228, 102), (231, 104), (234, 105), (237, 106), (240, 107), (243, 108), (246, 109), (249, 110), (252, 111), (255, 118), (258, 120), (262, 122), (265, 124), (268, 125), (271, 126), (274, 127), (277, 130), (280, 131), (283, 132), (286, 134), (289, 135), (292, 136), (295, 137), (298, 138), (301, 139), (304, 140), (307, 149), (310, 1), (317, 12), (320, 13), (323, 2), (407, 15), (410, 16), (413, 14), (430, 17), (433, 18), (440, 29), (443, 31), (450, 34), (454, 35), (470, 33), (473, 32), (510, 49), (513, 62), (516, 36), (519, 42), (634, 66), (637, 67), (640, 89), (656, 69), (659, 74), (675, 68), (790, 91), (796, 112), (799, 113), (802, 93), (806, 94), (809, 114), (812, 103), (815, 100), (818, 117), (830, 115), (833, 92), (853, 116), (875, 119), (878, 121), (890, 123), (901, 128), (904, 144), (907, 145), (910, 142), (913, 129), (916, 133), (919, 141), (925, 143), (937, 146), (940, 147), (943, 148)]
def mlk : List (Nat × Nat) := [(313, 1), (326, 3), (330, 4), (334, 7), (337, 5), (340, 9), (343, 10), (346, 11), (349, 8), (416, 12), (420, 14), (423, 17), (427, 13), (436, 20), (446, 29), (457, 34), (460, 30), (463, 15), (466, 21), (476, 26), (479, 19), (482, 25), (486, 28), (489, 23), (492, 18), (495, 24), (498, 31), (501, 22), (504, 32), (507, 33), (522, 38), (525, 35), (529, 39), (532, 36), (535, 44), (538, 40), (542, 43), (545, 67), (548, 46), (551, 47), (554, 49), (557, 60), (560, 59), (563, 45), (566, 41), (570, 48), (573, 27), (576, 16), (579, 50), (582, 53), (585, 54), (588, 55), (591, 57), (594, 58), (597, 62), (600, 65), (603, 66), (606, 51), (609, 69), (612, 52), (615, 56), (618, 42), (622, 61), (625, 64), (628, 63), (631, 68), (649, 73), (652, 74), (662, 77), (666, 79), (669, 72), (672, 70), (678, 87), (681, 71), (684, 88), (687, 105), (690, 113), (697, 86), (700, 84), (703, 83), (706, 89), (709, 78), (712, 90), (715, 91), (718, 92), (721, 95), (724, 80), (727, 98), (730, 100), (733, 104), (736, 81), (741, 76), (745, 94), (748, 96), (752, 93), (755, 97), (763, 99), (766, 75), (769, 103), (772, 101), (775, 102), (778, 85), (781, 107), (784, 106), (787, 108), (793, 109), (821, 114), (824, 117), (827, 121), (836, 112), (840, 111), (844, 115), (847, 116), (850, 118), (856, 110), (859, 119), (863, 120), (866, 122), (869, 6), (872, 37), (881, 82), (884, 125), (887, 127), (893, 129), (896, 134), (922, 148), (928, 144), (931, 146), (934, 142), (946, 145), (949, 150), (952, 152), (955, 143), (958, 153), (962, 154), (965, 157), (968, 149), (971, 155), (974, 156), (977, 159), (981, 147), (984, 158)]
def llk : List (Nat × Int64) := [(353, 27707072068280686), (355, 1652126821), (357, 1667785074), (359, 6909556), (361, 1819242087), (363, 1987012964), (365, 26982), (367, 1701606245), (369, 512852847717), (371, 6713202), (373, 25711), (375, 126956707537768), (377, 1667330917), (379, 28258988067220596), (381, 422826041707), (383, 7165066978433856869), (385, 125780071117422), (387, 499968536439), (389, 7631481), (391, 426836779880), (393, 28826370426301561), (395, 439855505772), (397, 1953658213), (399, 439721161573), (401, 922337203685477580), (403, 10), (405, 2147483648), (643, (-128)), (645, 127), (647, 65535), (693, 7304564), (695, 26990), (739, (-1)), (759, 63), (761, 31), (899, (-1234567890123))]
def yno : MethodName := ⟨RX12, "", ""⟩
def yn (μ : Nat) : MethodName := match mtab[μ]? with
  | some r => r.1
  | none => yno
def wC (r : RM) : Cond := .code r.1 r.2.1 r.2.2.1 r.2.2.2.1
def wI (r : RM) : Cond := .instanceMethod r.1
def wSl (r : RM) : Cond := .selects RX12 r.1 r.1
def wM (q : Nat × Nat) : Cond := .methodLink RX12 q.1 (yn q.2)
def wF (q : Nat × Nat) : Cond := .fieldLink RX12 q.1 "PlainJavaModel" (TX12 q.2).2.1 (TX12 q.2).2.2.1
def wL (q : Nat × Int64) : Cond := .constantLong RX12 q.1 q.2
/-- all words that the reference's methods need -/
def wG : List Cond := .initialized RX12 :: (mtab.map wC ++ (mtab.map wI ++ (mtab.map wSl ++ (mlk.map wM ++ (flk.map wF ++ (llk.map wL ++ wsX120))))))
theorem wG_C {μ : Nat} {r : RM} (h : mtab[μ]? = some r) : wC r ∈ wG := List.mem_cons_of_mem _ (List.mem_append_left _ (List.mem_map_of_mem (List.mem_of_getElem? h)))
theorem wG_I {μ : Nat} {r : RM} (h : mtab[μ]? = some r) : wI r ∈ wG := List.mem_cons_of_mem _ (List.mem_append_right _ (List.mem_append_left _ (List.mem_map_of_mem (List.mem_of_getElem? h))))
theorem wG_S {μ : Nat} {r : RM} (h : mtab[μ]? = some r) : wSl r ∈ wG := List.mem_cons_of_mem _ (List.mem_append_right _ (List.mem_append_right _ (List.mem_append_left _ (List.mem_map_of_mem (List.mem_of_getElem? h)))))
theorem wG_M {q : Nat × Nat} (h : q ∈ mlk) : wM q ∈ wG := List.mem_cons_of_mem _ (List.mem_append_right _ (List.mem_append_right _ (List.mem_append_right _ (List.mem_append_left _ (List.mem_map_of_mem h)))))
theorem wG_F {q : Nat × Nat} (h : q ∈ flk) : wF q ∈ wG := List.mem_cons_of_mem _ (List.mem_append_right _ (List.mem_append_right _ (List.mem_append_right _ (List.mem_append_right _ (List.mem_append_left _ (List.mem_map_of_mem h))))))
theorem wG_L {q : Nat × Int64} (h : q ∈ llk) : wL q ∈ wG := List.mem_cons_of_mem _ (List.mem_append_right _ (List.mem_append_right _ (List.mem_append_right _ (List.mem_append_right _ (List.mem_append_right _ (List.mem_append_left _ (List.mem_map_of_mem h)))))))
theorem wG_T {w : Cond} (h : w ∈ wsX120) : w ∈ wG := List.mem_cons_of_mem _ (List.mem_append_right _ (List.mem_append_right _ (List.mem_append_right _ (List.mem_append_right _ (List.mem_append_right _ (List.mem_append_right _ h))))))
set_option maxRecDepth 100000 in
theorem wG_good : wG.all goodWord = true := by decide +kernel
theorem mtab_ok : ∀ μ, μ < mtab.length → ∀ r, mtab[μ]? = some r → r.1.cls = RX12 ∧ (parseMethodDescriptor r.1.desc).map (fun d => d.parameters.length) = some r.2.2.2.2 ∧ r.2.2.1 ≤ 80 := by
  have h : (mtab.all (fun r => decide (r.1.cls = RX12) && decide ((parseMethodDescriptor r.1.desc).map (fun d => d.parameters.length) = some r.2.2.2.2) && decide (r.2.2.1 ≤ 80))) = true := by decide +kernel
  intro μ _ r hr
  have h1 := List.all_eq_true.mp h r (List.mem_of_getElem? hr)
  simp only [Bool.and_eq_true, decide_eq_true_eq] at h1
  exact ⟨h1.1.1, h1.1.2, h1.2⟩
