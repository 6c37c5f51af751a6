/-! a rule for each instruction -/
def kgC (k c : Nat) : Bool := Nat.beq (k / 30) c && Nat.blt c 13
/-- a field that may be set freely -/
def kpC (k c : Nat) : Bool := Nat.beq (k / 30) c && (Nat.blt c 13 && (!finC k && (![2, 160, 165, 167, 308, 280].elem k && ![1, 73, 75, 159, 186, 275, 276, 277, 278, 307].elem k)))
theorem kgCob {σ : CsC} {a k c : Nat} (h : kgC k c = true) (t : TyC σ a c) : ObC σ a (k / 30) := by
  unfold kgC at h
  simp only [Bool.and_eq_true, Nat.beq_eq, Nat.blt_eq] at h
  rw [h.1]
  exact t.ob h.2
theorem kpCof {k c : Nat} (h : kpC k c = true) : kgC k c = true ∧ finC k = false ∧ [2, 160, 165, 167, 308, 280].elem k = false ∧ [1, 73, 75, 159, 186, 275, 276, 277, 278, 307].elem k = false := by
  unfold kpC at h
  unfold kgC
  simp only [Bool.and_eq_true, Bool.not_eq_true'] at h
  exact ⟨by rw [Bool.and_eq_true]; exact ⟨h.1, h.2.1⟩, h.2.2.1, h.2.2.2.1, h.2.2.2.2⟩
theorem b01C {x : Int32} (h0 : 0 ≤ x.toInt) (h1 : x.toInt ≤ 1) : x = 0 ∨ x = 1 := by
  have e0 : (0 : Int32).toInt = 0 := rfl
  have e1 : (1 : Int32).toInt = 1 := rfl
  by_cases q : x.toInt = 0
  · exact Or.inl (Int32.toInt_inj.mp (by omega))
  · exact Or.inr (Int32.toInt_inj.mp (by omega))
theorem inC_of {j : Int32} {n : Nat} (h0 : 0 ≤ j.toInt) (h1 : j.toInt < n) : vp_in j n := by
  unfold vp_in
  rintro (h | h)
  · have := Int32.lt_iff_toInt_lt.mp h
    have e0 : (0 : Int32).toInt = 0 := rfl
    omega
  · have h : n ≤ j.toInt.toNat := h
    omega
section KR
variable {ct : CcC} {K : CkC} {Z : Option AvC → CsC → Prop} {is : List RI} {pc d b : Nat} {q : Int} {cs : List (Int × Nat)} {ls : ClC} {st : List AvC} {σ : CsC}
theorem k_nil (h : K pc ls st σ) : cwpC ct K Z [] pc ls st σ := h
theorem k_st {st' : List AvC} (e : st = st') (h : cwpC ct K Z is pc ls st' σ) : cwpC ct K Z is pc ls st σ := e ▸ h
theorem k_iconst {n m : Int} (e : (Int32.ofInt n).toInt = m) (h : ∀ x : Int32, x.toInt = m → cwpC ct K Z is (pc + 1) ls (.inl x :: st) σ) : cwpC ct K Z ((.iconst n, d, q, b, cs) :: is) pc ls st σ := h _ e
theorem k_bipush {n m : Int} (e : (Int32.ofInt n).toInt = m) (h : ∀ x : Int32, x.toInt = m → cwpC ct K Z is (pc + 2) ls (.inl x :: st) σ) : cwpC ct K Z ((.bipush n, d, q, b, cs) :: is) pc ls st σ := h _ e
theorem k_sipush {n m : Int} (e : (Int32.ofInt n).toInt = m) (h : ∀ x : Int32, x.toInt = m → cwpC ct K Z is (pc + 3) ls (.inl x :: st) σ) : cwpC ct K Z ((.sipush n, d, q, b, cs) :: is) pc ls st σ := h _ e
theorem k_ldcI {j : Nat} {m : Int} (e : (Int32.ofInt q).toInt = m) (h : ∀ x : Int32, x.toInt = m → cwpC ct K Z is (pc + 2) ls (.inl x :: st) σ) : cwpC ct K Z ((.ldc j, d, q, 0, cs) :: is) pc ls st σ := h _ e
theorem k_ldcR {j c : Nat} (e : Nat.beq c 0 = false) (h : cwpC ct K Z is (pc + 2) ls (.inr (.inr (some c)) :: st) σ) : cwpC ct K Z ((.ldc j, d, q, c, cs) :: is) pc ls st σ := by
  show (match Nat.beq c 0 with
    | true => _
    | false => _)
  rw [e]
  exact h
theorem k_lconst {n : Fin 2} (h : cwpC ct K Z is (pc + 1) ls (.inr (.inl (Int64.ofNat (n : Nat))) :: st) σ) : cwpC ct K Z ((.lconst n, d, q, b, cs) :: is) pc ls st σ := h
theorem k_ldc2_w {n : Nat} (h : cwpC ct K Z is (pc + 3) ls (.inr (.inl (Int64.ofInt q)) :: st) σ) : cwpC ct K Z ((.ldc2_w n, d, q, b, cs) :: is) pc ls st σ := h
theorem k_aconst_null (h : cwpC ct K Z is (pc + 1) ls (.inr (.inr none) :: st) σ) : cwpC ct K Z ((.aconst_null, d, q, b, cs) :: is) pc ls st σ := h
theorem k_iload_n {n : Fin 4} {v : Int32} (e : lkC ls b = some (.inl v)) (h : cwpC ct K Z is (pc + 1) ls (.inl v :: st) σ) : cwpC ct K Z ((.iload_n n, d, q, b, cs) :: is) pc ls st σ := by
  show (match lkC ls b with
    | some (.inl v) => _
    | _ => False)
  rw [e]
  exact h
theorem k_iload {n : Nat} {v : Int32} (e : lkC ls n = some (.inl v)) (h : cwpC ct K Z is (pc + 2) ls (.inl v :: st) σ) : cwpC ct K Z ((.iload n, d, q, b, cs) :: is) pc ls st σ := by
  show (match lkC ls n with
    | some (.inl v) => _
    | _ => False)
  rw [e]
  exact h
theorem k_lload_n {n : Fin 4} {v : Int64} (e : lkC ls b = some (.inr (.inl v))) (h : cwpC ct K Z is (pc + 1) ls (.inr (.inl v) :: st) σ) : cwpC ct K Z ((.lload_n n, d, q, b, cs) :: is) pc ls st σ := by
  show (match lkC ls b with
    | some (.inr (.inl v)) => _
    | _ => False)
  rw [e]
  exact h
theorem k_lload {n : Nat} {v : Int64} (e : lkC ls n = some (.inr (.inl v))) (h : cwpC ct K Z is (pc + 2) ls (.inr (.inl v) :: st) σ) : cwpC ct K Z ((.lload n, d, q, b, cs) :: is) pc ls st σ := by
  show (match lkC ls n with
    | some (.inr (.inl v)) => _
    | _ => False)
  rw [e]
  exact h
theorem k_aload_n {n : Fin 4} {v : Option Nat} (e : lkC ls b = some (.inr (.inr v))) (h : cwpC ct K Z is (pc + 1) ls (.inr (.inr v) :: st) σ) : cwpC ct K Z ((.aload_n n, d, q, b, cs) :: is) pc ls st σ := by
  show (match lkC ls b with
    | some (.inr (.inr v)) => _
    | _ => False)
  rw [e]
  exact h
theorem k_aload {n : Nat} {v : Option Nat} (e : lkC ls n = some (.inr (.inr v))) (h : cwpC ct K Z is (pc + 2) ls (.inr (.inr v) :: st) σ) : cwpC ct K Z ((.aload n, d, q, b, cs) :: is) pc ls st σ := by
  show (match lkC ls n with
    | some (.inr (.inr v)) => _
    | _ => False)
  rw [e]
  exact h
theorem k_istore_n {n : Fin 4} {v : Int32} {ls' : ClC} (e : s1C ls b (.inl v) = ls') (h : cwpC ct K Z is (pc + 1) ls' st σ) : cwpC ct K Z ((.istore_n n, d, q, b, cs) :: is) pc ls (.inl v :: st) σ := by
  subst e
  exact h
theorem k_istore {n : Nat} {v : Int32} {ls' : ClC} (e : s1C ls n (.inl v) = ls') (h : cwpC ct K Z is (pc + 2) ls' st σ) : cwpC ct K Z ((.istore n, d, q, b, cs) :: is) pc ls (.inl v :: st) σ := by
  subst e
  exact h
theorem k_lstore_n {n : Fin 4} {v : Int64} {ls' : ClC} (e : s2C ls b (.inr (.inl v)) = ls') (h : cwpC ct K Z is (pc + 1) ls' st σ) : cwpC ct K Z ((.lstore_n n, d, q, b, cs) :: is) pc ls (.inr (.inl v) :: st) σ := by
  subst e
  exact h
theorem k_lstore {n : Nat} {v : Int64} {ls' : ClC} (e : s2C ls n (.inr (.inl v)) = ls') (h : cwpC ct K Z is (pc + 2) ls' st σ) : cwpC ct K Z ((.lstore n, d, q, b, cs) :: is) pc ls (.inr (.inl v) :: st) σ := by
  subst e
  exact h
theorem k_astore_n {n : Fin 4} {v : Option Nat} {ls' : ClC} (e : s1C ls b (.inr (.inr v)) = ls') (h : cwpC ct K Z is (pc + 1) ls' st σ) : cwpC ct K Z ((.astore_n n, d, q, b, cs) :: is) pc ls (.inr (.inr v) :: st) σ := by
  subst e
  exact h
theorem k_astore {n : Nat} {v : Option Nat} {ls' : ClC} (e : s1C ls n (.inr (.inr v)) = ls') (h : cwpC ct K Z is (pc + 2) ls' st σ) : cwpC ct K Z ((.astore n, d, q, b, cs) :: is) pc ls (.inr (.inr v) :: st) σ := by
  subst e
  exact h
theorem tiC (x : Int32) : -2147483648 ≤ x.toInt ∧ x.toInt ≤ 2147483647 := ⟨Int32.le_toInt x, by have := Int32.toInt_lt x; omega⟩
theorem addC {x y : Int32} {m : Int} (e : x.toInt + y.toInt = m) (h1 : -2147483648 ≤ m) (h2 : m ≤ 2147483647) : (x + y).toInt = m := by
  rw [Int32.toInt_add, e]
  exact Int.bmod_eq_of_le (by omega) (by omega)
theorem subC {x y : Int32} {m : Int} (e : x.toInt - y.toInt = m) (h1 : -2147483648 ≤ m) (h2 : m ≤ 2147483647) : (x - y).toInt = m := by
  rw [Int32.toInt_sub, e]
  exact Int.bmod_eq_of_le (by omega) (by omega)
theorem k_iinc {n : Nat} {i : Int} {v : Int32} {ls' : ClC} {w : Int32} (e : lkC ls n = some (.inl v)) (ew : v + Int32.ofInt i = w) (e' : s1C ls n (.inl w) = ls') (h : cwpC ct K Z is (pc + 3) ls' st σ) : cwpC ct K Z ((.iinc n i, d, q, b, cs) :: is) pc ls st σ := by
  show (match lkC ls n with
    | some (.inl v) => _
    | _ => False)
  rw [e]
  subst ew e'
  exact h
theorem iincC {n : Int} {m : Int} {v : Int32} (e : (Int32.ofInt n).toInt = m) (h1 : -2147483648 ≤ v.toInt + m) (h2 : v.toInt + m ≤ 2147483647) : ∃ w, v + Int32.ofInt n = w ∧ w.toInt = v.toInt + m := ⟨_, rfl, addC (by rw [e]) h1 h2⟩
theorem k_iadd {x y : Int32} (h1 : -2147483648 ≤ x.toInt + y.toInt) (h2 : x.toInt + y.toInt ≤ 2147483647) (h : ∀ z : Int32, z.toInt = x.toInt + y.toInt → cwpC ct K Z is (pc + 1) ls (.inl z :: st) σ) : cwpC ct K Z ((.iadd, d, q, b, cs) :: is) pc ls (.inl y :: .inl x :: st) σ := h _ (addC rfl h1 h2)
theorem k_isub {x y : Int32} (h1 : -2147483648 ≤ x.toInt - y.toInt) (h2 : x.toInt - y.toInt ≤ 2147483647) (h : ∀ z : Int32, z.toInt = x.toInt - y.toInt → cwpC ct K Z is (pc + 1) ls (.inl z :: st) σ) : cwpC ct K Z ((.isub, d, q, b, cs) :: is) pc ls (.inl y :: .inl x :: st) σ := h _ (subC rfl h1 h2)
theorem k_iadd_u {x y : Int32} (h : ∀ z : Int32, cwpC ct K Z is (pc + 1) ls (.inl z :: st) σ) : cwpC ct K Z ((.iadd, d, q, b, cs) :: is) pc ls (.inl y :: .inl x :: st) σ := h _
theorem k_isub_u {x y : Int32} (h : ∀ z : Int32, cwpC ct K Z is (pc + 1) ls (.inl z :: st) σ) : cwpC ct K Z ((.isub, d, q, b, cs) :: is) pc ls (.inl y :: .inl x :: st) σ := h _
theorem k_iand_u {x y : Int32} (h : ∀ z : Int32, cwpC ct K Z is (pc + 1) ls (.inl z :: st) σ) : cwpC ct K Z ((.iand, d, q, b, cs) :: is) pc ls (.inl y :: .inl x :: st) σ := h _
theorem k_ior_u {x y : Int32} (h : ∀ z : Int32, cwpC ct K Z is (pc + 1) ls (.inl z :: st) σ) : cwpC ct K Z ((.ior, d, q, b, cs) :: is) pc ls (.inl y :: .inl x :: st) σ := h _
theorem k_imul_u {x y : Int32} (h : ∀ z : Int32, cwpC ct K Z is (pc + 1) ls (.inl z :: st) σ) : cwpC ct K Z ((.imul, d, q, b, cs) :: is) pc ls (.inl y :: .inl x :: st) σ := h _
theorem k_ishl_u {x y : Int32} (h : ∀ z : Int32, cwpC ct K Z is (pc + 1) ls (.inl z :: st) σ) : cwpC ct K Z ((.ishl, d, q, b, cs) :: is) pc ls (.inl y :: .inl x :: st) σ := h _
theorem k_ishr_u {x y : Int32} (h : ∀ z : Int32, cwpC ct K Z is (pc + 1) ls (.inl z :: st) σ) : cwpC ct K Z ((.ishr, d, q, b, cs) :: is) pc ls (.inl y :: .inl x :: st) σ := h _
theorem k_iushr_u {x y : Int32} (h : ∀ z : Int32, cwpC ct K Z is (pc + 1) ls (.inl z :: st) σ) : cwpC ct K Z ((.iushr, d, q, b, cs) :: is) pc ls (.inl y :: .inl x :: st) σ := h _
theorem k_iand_b {x y : Int32} (hx : x = 0 ∨ x = 1) (hy : y = 0 ∨ y = 1) (h : ∀ z : Int32, 0 ≤ z.toInt → z.toInt ≤ 1 → z.toInt ≤ x.toInt → z.toInt ≤ y.toInt → cwpC ct K Z is (pc + 1) ls (.inl z :: st) σ) : cwpC ct K Z ((.iand, d, q, b, cs) :: is) pc ls (.inl y :: .inl x :: st) σ := by
  apply h (x &&& y) <;> rcases hx with rfl | rfl <;> rcases hy with rfl | rfl <;> decide
theorem k_ior_b {x y : Int32} (hx : x = 0 ∨ x = 1) (hy : y = 0 ∨ y = 1) (h : ∀ z : Int32, 0 ≤ z.toInt → z.toInt ≤ 1 → cwpC ct K Z is (pc + 1) ls (.inl z :: st) σ) : cwpC ct K Z ((.ior, d, q, b, cs) :: is) pc ls (.inl y :: .inl x :: st) σ := by
  apply h (x ||| y) <;> rcases hx with rfl | rfl <;> rcases hy with rfl | rfl <;> decide
theorem k_irem_u {x y : Int32} (hy : ¬ y = 0) (h : ∀ z : Int32, cwpC ct K Z is (pc + 1) ls (.inl z :: st) σ) : cwpC ct K Z ((.irem, d, q, b, cs) :: is) pc ls (.inl y :: .inl x :: st) σ := ⟨hy, h _⟩
theorem k_ladd {x y : Int64} (h : ∀ z : Int64, cwpC ct K Z is (pc + 1) ls (.inr (.inl z) :: st) σ) : cwpC ct K Z ((.ladd, d, q, b, cs) :: is) pc ls (.inr (.inl y) :: .inr (.inl x) :: st) σ := h _
theorem k_lsub {x y : Int64} (h : ∀ z : Int64, cwpC ct K Z is (pc + 1) ls (.inr (.inl z) :: st) σ) : cwpC ct K Z ((.lsub, d, q, b, cs) :: is) pc ls (.inr (.inl y) :: .inr (.inl x) :: st) σ := h _
theorem k_lmul {x y : Int64} (h : ∀ z : Int64, cwpC ct K Z is (pc + 1) ls (.inr (.inl z) :: st) σ) : cwpC ct K Z ((.lmul, d, q, b, cs) :: is) pc ls (.inr (.inl y) :: .inr (.inl x) :: st) σ := h _
theorem k_land {x y : Int64} (h : ∀ z : Int64, cwpC ct K Z is (pc + 1) ls (.inr (.inl z) :: st) σ) : cwpC ct K Z ((.land, d, q, b, cs) :: is) pc ls (.inr (.inl y) :: .inr (.inl x) :: st) σ := h _
theorem k_lor {x y : Int64} (h : ∀ z : Int64, cwpC ct K Z is (pc + 1) ls (.inr (.inl z) :: st) σ) : cwpC ct K Z ((.lor, d, q, b, cs) :: is) pc ls (.inr (.inl y) :: .inr (.inl x) :: st) σ := h _
theorem k_lxor {x y : Int64} (h : ∀ z : Int64, cwpC ct K Z is (pc + 1) ls (.inr (.inl z) :: st) σ) : cwpC ct K Z ((.lxor, d, q, b, cs) :: is) pc ls (.inr (.inl y) :: .inr (.inl x) :: st) σ := h _
theorem k_ldiv {x y : Int64} (hy : ¬ y = 0) (h : ∀ z : Int64, cwpC ct K Z is (pc + 1) ls (.inr (.inl z) :: st) σ) : cwpC ct K Z ((.ldiv, d, q, b, cs) :: is) pc ls (.inr (.inl y) :: .inr (.inl x) :: st) σ := ⟨hy, h _⟩
theorem k_lrem {x y : Int64} (hy : ¬ y = 0) (h : ∀ z : Int64, cwpC ct K Z is (pc + 1) ls (.inr (.inl z) :: st) σ) : cwpC ct K Z ((.lrem, d, q, b, cs) :: is) pc ls (.inr (.inl y) :: .inr (.inl x) :: st) σ := ⟨hy, h _⟩
theorem k_lshl {x : Int64} {y : Int32} (h : ∀ z : Int64, cwpC ct K Z is (pc + 1) ls (.inr (.inl z) :: st) σ) : cwpC ct K Z ((.lshl, d, q, b, cs) :: is) pc ls (.inl y :: .inr (.inl x) :: st) σ := h _
theorem k_lshr {x : Int64} {y : Int32} (h : ∀ z : Int64, cwpC ct K Z is (pc + 1) ls (.inr (.inl z) :: st) σ) : cwpC ct K Z ((.lshr, d, q, b, cs) :: is) pc ls (.inl y :: .inr (.inl x) :: st) σ := h _
theorem k_lushr {x : Int64} {y : Int32} (h : ∀ z : Int64, cwpC ct K Z is (pc + 1) ls (.inr (.inl z) :: st) σ) : cwpC ct K Z ((.lushr, d, q, b, cs) :: is) pc ls (.inl y :: .inr (.inl x) :: st) σ := h _
theorem k_lneg {x : Int64} (h : ∀ z : Int64, cwpC ct K Z is (pc + 1) ls (.inr (.inl z) :: st) σ) : cwpC ct K Z ((.lneg, d, q, b, cs) :: is) pc ls (.inr (.inl x) :: st) σ := h _
theorem k_i2l {x : Int32} (h : ∀ z : Int64, cwpC ct K Z is (pc + 1) ls (.inr (.inl z) :: st) σ) : cwpC ct K Z ((.i2l, d, q, b, cs) :: is) pc ls (.inl x :: st) σ := h _
theorem k_l2i {x : Int64} (h : ∀ z : Int32, cwpC ct K Z is (pc + 1) ls (.inl z :: st) σ) : cwpC ct K Z ((.l2i, d, q, b, cs) :: is) pc ls (.inr (.inl x) :: st) σ := h _
theorem k_i2b {x : Int32} (h : ∀ z : Int32, cwpC ct K Z is (pc + 1) ls (.inl z :: st) σ) : cwpC ct K Z ((.i2b, d, q, b, cs) :: is) pc ls (.inl x :: st) σ := h _
theorem k_i2c {x : Int32} (h : ∀ z : Int32, cwpC ct K Z is (pc + 1) ls (.inl z :: st) σ) : cwpC ct K Z ((.i2c, d, q, b, cs) :: is) pc ls (.inl x :: st) σ := h _
theorem lcmpC {x y : Int64} : (lg_cmp x y).toInt = 0 → x = y := by
  unfold lg_cmp
  intro h
  by_cases h1 : x > y
  · rw [if_pos h1] at h; exact absurd h (by decide)
  · rw [if_neg h1] at h
    by_cases h2 : x = y
    · exact h2
    · rw [if_neg h2] at h; exact absurd h (by decide)
theorem k_lcmp {x y : Int64} (h : ∀ z : Int32, (z.toInt = 0 → x = y) → (x = y → z.toInt = 0) → cwpC ct K Z is (pc + 1) ls (.inl z :: st) σ) : cwpC ct K Z ((.lcmp, d, q, b, cs) :: is) pc ls (.inr (.inl y) :: .inr (.inl x) :: st) σ := h _ lcmpC (fun e => by subst e; unfold lg_cmp; simp [Int64.lt_irrefl])
theorem k_dupI {v : Int32} (h : cwpC ct K Z is (pc + 1) ls (.inl v :: .inl v :: st) σ) : cwpC ct K Z ((.dup, d, q, b, cs) :: is) pc ls (.inl v :: st) σ := h
theorem k_dupR {v : Option Nat} (h : cwpC ct K Z is (pc + 1) ls (.inr (.inr v) :: .inr (.inr v) :: st) σ) : cwpC ct K Z ((.dup, d, q, b, cs) :: is) pc ls (.inr (.inr v) :: st) σ := h
theorem k_dup_x1I {v : Int32} {y : Option Nat} (h : cwpC ct K Z is (pc + 1) ls (.inl v :: .inr (.inr y) :: .inl v :: st) σ) : cwpC ct K Z ((.dup_x1, d, q, b, cs) :: is) pc ls (.inl v :: .inr (.inr y) :: st) σ := h
theorem k_dup_x1R {v y : Option Nat} (h : cwpC ct K Z is (pc + 1) ls (.inr (.inr v) :: .inr (.inr y) :: .inr (.inr v) :: st) σ) : cwpC ct K Z ((.dup_x1, d, q, b, cs) :: is) pc ls (.inr (.inr v) :: .inr (.inr y) :: st) σ := h
theorem k_popI {v : Int32} (h : cwpC ct K Z is (pc + 1) ls st σ) : cwpC ct K Z ((.pop, d, q, b, cs) :: is) pc ls (.inl v :: st) σ := h
theorem k_popR {v : Option Nat} (h : cwpC ct K Z is (pc + 1) ls st σ) : cwpC ct K Z ((.pop, d, q, b, cs) :: is) pc ls (.inr (.inr v) :: st) σ := h
theorem k_pop2 {v : Int64} (h : cwpC ct K Z is (pc + 1) ls st σ) : cwpC ct K Z ((.pop2, d, q, b, cs) :: is) pc ls (.inr (.inl v) :: st) σ := h
theorem k_goto {o : Int} (h : K b ls st σ) : cwpC ct K Z ((.goto o, d, q, b, cs) :: is) pc ls st σ := h
theorem k_if_eq {o : Int} {x : Int32} (h1 : x.toInt = 0 → K b ls st σ) (h2 : ¬ x.toInt = 0 → cwpC ct K Z is (pc + 3) ls st σ) : cwpC ct K Z ((.ifCond .eq o, d, q, b, cs) :: is) pc ls (.inl x :: st) σ := ⟨fun g => h1 (congrArg _ g), fun g => h2 (fun z => g (Int32.toInt_inj.mp z))⟩
theorem k_ic_eq {o : Int} {x y : Int32} (h1 : x.toInt = y.toInt → K b ls st σ) (h2 : ¬ x.toInt = y.toInt → cwpC ct K Z is (pc + 3) ls st σ) : cwpC ct K Z ((.if_icmp .eq o, d, q, b, cs) :: is) pc ls (.inl y :: .inl x :: st) σ := ⟨fun g => h1 (congrArg _ g), fun g => h2 (fun z => g (Int32.toInt_inj.mp z))⟩
theorem k_if_ne {o : Int} {x : Int32} (h1 : ¬ x.toInt = 0 → K b ls st σ) (h2 : x.toInt = 0 → cwpC ct K Z is (pc + 3) ls st σ) : cwpC ct K Z ((.ifCond .ne o, d, q, b, cs) :: is) pc ls (.inl x :: st) σ := ⟨fun g => h1 (fun z => g (Int32.toInt_inj.mp z)), fun g => h2 (congrArg _ g)⟩
theorem k_ic_ne {o : Int} {x y : Int32} (h1 : ¬ x.toInt = y.toInt → K b ls st σ) (h2 : x.toInt = y.toInt → cwpC ct K Z is (pc + 3) ls st σ) : cwpC ct K Z ((.if_icmp .ne o, d, q, b, cs) :: is) pc ls (.inl y :: .inl x :: st) σ := ⟨fun g => h1 (fun z => g (Int32.toInt_inj.mp z)), fun g => h2 (congrArg _ g)⟩
theorem k_if_lt {o : Int} {x : Int32} (h1 : x.toInt < 0 → K b ls st σ) (h2 : 0 ≤ x.toInt → cwpC ct K Z is (pc + 3) ls st σ) : cwpC ct K Z ((.ifCond .lt o, d, q, b, cs) :: is) pc ls (.inl x :: st) σ := ⟨fun g => h1 (Int32.lt_iff_toInt_lt.mp g), fun g => h2 (Int.not_lt.mp (fun z => g (Int32.lt_iff_toInt_lt.mpr z)))⟩
theorem k_ic_lt {o : Int} {x y : Int32} (h1 : x.toInt < y.toInt → K b ls st σ) (h2 : y.toInt ≤ x.toInt → cwpC ct K Z is (pc + 3) ls st σ) : cwpC ct K Z ((.if_icmp .lt o, d, q, b, cs) :: is) pc ls (.inl y :: .inl x :: st) σ := ⟨fun g => h1 (Int32.lt_iff_toInt_lt.mp g), fun g => h2 (Int.not_lt.mp (fun z => g (Int32.lt_iff_toInt_lt.mpr z)))⟩
theorem k_if_ge {o : Int} {x : Int32} (h1 : 0 ≤ x.toInt → K b ls st σ) (h2 : x.toInt < 0 → cwpC ct K Z is (pc + 3) ls st σ) : cwpC ct K Z ((.ifCond .ge o, d, q, b, cs) :: is) pc ls (.inl x :: st) σ := ⟨fun g => h1 (Int32.le_iff_toInt_le.mp g), fun g => h2 (Int.not_le.mp (fun z => g (Int32.le_iff_toInt_le.mpr z)))⟩
theorem k_ic_ge {o : Int} {x y : Int32} (h1 : y.toInt ≤ x.toInt → K b ls st σ) (h2 : x.toInt < y.toInt → cwpC ct K Z is (pc + 3) ls st σ) : cwpC ct K Z ((.if_icmp .ge o, d, q, b, cs) :: is) pc ls (.inl y :: .inl x :: st) σ := ⟨fun g => h1 (Int32.le_iff_toInt_le.mp g), fun g => h2 (Int.not_le.mp (fun z => g (Int32.le_iff_toInt_le.mpr z)))⟩
theorem k_if_gt {o : Int} {x : Int32} (h1 : 0 < x.toInt → K b ls st σ) (h2 : x.toInt ≤ 0 → cwpC ct K Z is (pc + 3) ls st σ) : cwpC ct K Z ((.ifCond .gt o, d, q, b, cs) :: is) pc ls (.inl x :: st) σ := ⟨fun g => h1 (Int32.lt_iff_toInt_lt.mp g), fun g => h2 (Int.not_lt.mp (fun z => g (Int32.lt_iff_toInt_lt.mpr z)))⟩
theorem k_ic_gt {o : Int} {x y : Int32} (h1 : y.toInt < x.toInt → K b ls st σ) (h2 : x.toInt ≤ y.toInt → cwpC ct K Z is (pc + 3) ls st σ) : cwpC ct K Z ((.if_icmp .gt o, d, q, b, cs) :: is) pc ls (.inl y :: .inl x :: st) σ := ⟨fun g => h1 (Int32.lt_iff_toInt_lt.mp g), fun g => h2 (Int.not_lt.mp (fun z => g (Int32.lt_iff_toInt_lt.mpr z)))⟩
theorem k_if_le {o : Int} {x : Int32} (h1 : x.toInt ≤ 0 → K b ls st σ) (h2 : 0 < x.toInt → cwpC ct K Z is (pc + 3) ls st σ) : cwpC ct K Z ((.ifCond .le o, d, q, b, cs) :: is) pc ls (.inl x :: st) σ := ⟨fun g => h1 (Int32.le_iff_toInt_le.mp g), fun g => h2 (Int.not_le.mp (fun z => g (Int32.le_iff_toInt_le.mpr z)))⟩
theorem k_ic_le {o : Int} {x y : Int32} (h1 : x.toInt ≤ y.toInt → K b ls st σ) (h2 : y.toInt < x.toInt → cwpC ct K Z is (pc + 3) ls st σ) : cwpC ct K Z ((.if_icmp .le o, d, q, b, cs) :: is) pc ls (.inl y :: .inl x :: st) σ := ⟨fun g => h1 (Int32.le_iff_toInt_le.mp g), fun g => h2 (Int.not_le.mp (fun z => g (Int32.le_iff_toInt_le.mpr z)))⟩
theorem k_ifnull {o : Int} {v : Option Nat} (h1 : v = none → K b ls st σ) (h2 : ∀ a, v = some a → cwpC ct K Z is (pc + 3) ls st σ) : cwpC ct K Z ((.ifnull o, d, q, b, cs) :: is) pc ls (.inr (.inr v) :: st) σ := ⟨h1, h2⟩
theorem k_ifnonnull {o : Int} {v : Option Nat} (h1 : ∀ a, v = some a → K b ls st σ) (h2 : v = none → cwpC ct K Z is (pc + 3) ls st σ) : cwpC ct K Z ((.ifnonnull o, d, q, b, cs) :: is) pc ls (.inr (.inr v) :: st) σ := ⟨h1, h2⟩
theorem k_acmp_eq {o : Int} {v y : Option Nat} {c c' : Nat} (t : OtC σ v c) (t' : OtC σ y c') (h1 : v = y → K b ls st σ) (h2 : ¬ v = y → cwpC ct K Z is (pc + 3) ls st σ) : cwpC ct K Z ((.if_acmp .eq o, d, q, b, cs) :: is) pc ls (.inr (.inr y) :: .inr (.inr v) :: st) σ := ⟨⟨h1, h2⟩, Or.inr ⟨fun a e => (t a e).1, fun a e => (t' a e).1⟩⟩
theorem k_acmp_ne {o : Int} {v y : Option Nat} {c c' : Nat} (t : OtC σ v c) (t' : OtC σ y c') (h1 : ¬ v = y → K b ls st σ) (h2 : v = y → cwpC ct K Z is (pc + 3) ls st σ) : cwpC ct K Z ((.if_acmp .ne o, d, q, b, cs) :: is) pc ls (.inr (.inr y) :: .inr (.inr v) :: st) σ := ⟨⟨h1, h2⟩, Or.inr ⟨fun a e => (t a e).1, fun a e => (t' a e).1⟩⟩
theorem k_tsw {o l h : Int} {os : Array Int} {x : Int32} (w : rsw x.toInt cs b (fun t => K t ls st σ)) : cwpC ct K Z ((.tableswitch o l h os, d, q, b, cs) :: is) pc ls (.inl x :: st) σ := w
theorem k_lsw {o : Int} {os : Array (Int × Int)} {x : Int32} (w : rsw x.toInt cs b (fun t => K t ls st σ)) : cwpC ct K Z ((.lookupswitch o os, d, q, b, cs) :: is) pc ls (.inl x :: st) σ := w
theorem k_swc {x i : Int} {t e : Nat} {r : List (Int × Nat)} {k : Nat → Prop} (h1 : x = i → k t) (h2 : ¬ x = i → rsw x r e k) : rsw x ((i, t) :: r) e k := ⟨h1, h2⟩
theorem k_swn {x : Int} {e : Nat} {k : Nat → Prop} (h : k e) : rsw x [] e k := h
theorem k_ireturn {x : Int32} (hb : q = 2 → x = 0 ∨ x = 1) (h : Z (some (.inl x)) σ) : cwpC ct K Z ((.ireturn, d, q, b, cs) :: is) pc ls [.inl x] σ := ⟨hb, h⟩
theorem k_lreturn {x : Int64} (h : Z (some (.inr (.inl x))) σ) : cwpC ct K Z ((.lreturn, d, q, b, cs) :: is) pc ls [.inr (.inl x)] σ := h
theorem k_areturn {x : Option Nat} (h : Z (some (.inr (.inr x))) σ) : cwpC ct K Z ((.areturn, d, q, b, cs) :: is) pc ls [.inr (.inr x)] σ := h
theorem k_return (h : Z none σ) : cwpC ct K Z ((.return_, d, q, b, cs) :: is) pc ls [] σ := ⟨σ, WeC.rf, h⟩
theorem k_returnW {τ : CsC} (e : WeC σ τ) (h : Z none τ) : cwpC ct K Z ((.return_, d, q, b, cs) :: is) pc ls [] σ := ⟨τ, e, h⟩
theorem k_get {j k c a : Nat} {v : AvC} (hk : kgC k c = true) (t : TyC σ a c) (e : gtC σ a k = v) (h : cwpC ct K Z is (pc + 3) ls (v :: st) σ) : cwpC ct K Z ((.getfield j, d, q, k, cs) :: is) pc ls (.inr (.inr (some a)) :: st) σ := by
  subst e
  exact ⟨a, rfl, kgCob hk t, h⟩
theorem k_getO {j k a : Nat} {v : AvC} (o : ObC σ a (k / 30)) (e : gtC σ a k = v) (h : cwpC ct K Z is (pc + 3) ls (v :: st) σ) : cwpC ct K Z ((.getfield j, d, q, k, cs) :: is) pc ls (.inr (.inr (some a)) :: st) σ := by
  subst e
  exact ⟨a, rfl, o, h⟩
theorem k_putI {j k c a : Nat} {w : Int32} (hp : kpC k c = true) (hI : HIC σ) (t : TyC σ a c) (hk : fkC k = 0 ∨ (fkC k = 1 ∧ (w = 0 ∨ w = 1))) (h1 : (inC k).1 ≤ w.toInt) (h2 : w.toInt ≤ (inC k).2) (h : ∀ τ, HIC τ → ExC [k] σ τ → fIC τ a k = w → cwpC ct K Z is (pc + 3) ls st τ) : cwpC ct K Z ((.putfield j, d, q, k, cs) :: is) pc ls (.inl w :: .inr (.inr (some a)) :: st) σ :=
  ⟨a, rfl, kgCob (kpCof hp).1 t, hk, h _ (hI.pI t (kpCof hp).2.2.1 (kpCof hp).2.1 ⟨h1, h2⟩) (ExC.pI (by simp) (Or.inr (kpCof hp).2.1)) fI_pIs⟩
theorem k_p280 {j a : Nat} {w : Int32} (hI : HIC σ) (t : TyC σ a 9) (h1 : -1 ≤ w.toInt) (h2 : w.toInt ≤ 502) (hl : (fIC σ a 270).toInt = 6 → 0 ≤ w.toInt) (h : ∀ τ, HIC τ → ExC [280] σ τ → fIC τ a 280 = w → cwpC ct K Z is (pc + 3) ls st τ) : cwpC ct K Z ((.putfield j, d, q, 280, cs) :: is) pc ls (.inl w :: .inr (.inr (some a)) :: st) σ :=
  ⟨a, rfl, kgCob (k := 280) (c := 9) (by decide) t, Or.inl (show fkC 280 = 0 by decide), h _ (hI.p280 t ⟨h1, h2⟩ hl) (ExC.pI (by simp) (Or.inr (show finC 280 = false by decide))) fI_pIs⟩
theorem k_putL {j k c a : Nat} {w : Int64} (hp : kgC k c = true) (hI : HIC σ) (t : TyC σ a c) (hk : fkC k = 2) (h : ∀ τ, HIC τ → ExC [] σ τ → fLC τ a k = w → cwpC ct K Z is (pc + 3) ls st τ) : cwpC ct K Z ((.putfield j, d, q, k, cs) :: is) pc ls (.inr (.inl w) :: .inr (.inr (some a)) :: st) σ :=
  ⟨a, rfl, kgCob hp t, hk, h _ hI.pL ExC.pL u2C_eq⟩
theorem k_putR {j k c a : Nat} {w : Option Nat} (hp : kpC k c = true) (hI : HIC σ) (t : TyC σ a c) (hk : fkC k = 3) (hv : RfC σ a k w) (h : ∀ τ, HIC τ → ExC [k] σ τ → fRC τ a k = w → cwpC ct K Z is (pc + 3) ls st τ) : cwpC ct K Z ((.putfield j, d, q, k, cs) :: is) pc ls (.inr (.inr w) :: .inr (.inr (some a)) :: st) σ :=
  ⟨a, rfl, kgCob (kpCof hp).1 t, hk, h _ (hI.pR t (kpCof hp).2.2.2 (kpCof hp).2.1 hv) (ExC.pR (by simp) (Or.inr (kpCof hp).2.1) (Or.inr (Or.inl (fun z => by have := (kpCof hp).2.2.2; subst z; cases this)))) fR_pRs⟩
theorem TyC.rw {a t : Nat} (h : TyC σ a t) : RwC σ a t := ⟨h.1, h.2.1⟩
theorem k_iaload {x : Int32} {a : Nat} (t : TyC σ a 100) (h0 : 0 ≤ x.toInt) (h1 : x.toInt < alC σ a) (h : ∀ v : Int32, cwpC ct K Z is (pc + 1) ls (.inl v :: st) σ) : cwpC ct K Z ((.iaload, d, q, b, cs) :: is) pc ls (.inl x :: .inr (.inr (some a)) :: st) σ := ⟨a, rfl, Or.inl ⟨t.rw, inC_of h0 h1, h _⟩⟩
theorem k_iaload1 {x : Int32} {a : Nat} (hI : HIC σ) (t : TyC σ a 100) (hg : ghC σ a = 1) (h0 : 0 ≤ x.toInt) (h1 : x.toInt < alC σ a) (h : ∀ v : Int32, 0 ≤ v.toInt → v.toInt ≤ 7500 → cwpC ct K Z is (pc + 1) ls (.inl v :: st) σ) : cwpC ct K Z ((.iaload, d, q, b, cs) :: is) pc ls (.inl x :: .inr (.inr (some a)) :: st) σ := ⟨a, rfl, Or.inl ⟨t.rw, inC_of h0 h1, h _ ((hI.1 a t.1).2.2.2.2.2.2.1 t.2.1 hg _).1 ((hI.1 a t.1).2.2.2.2.2.2.1 t.2.1 hg _).2⟩⟩
theorem k_baload {x : Int32} {a : Nat} (t : TyC σ a 101) (h0 : 0 ≤ x.toInt) (h1 : x.toInt < alC σ a) (h : ∀ v : Int32, cwpC ct K Z is (pc + 1) ls (.inl v :: st) σ) : cwpC ct K Z ((.baload, d, q, b, cs) :: is) pc ls (.inl x :: .inr (.inr (some a)) :: st) σ := ⟨a, rfl, t.rw, inC_of h0 h1, h _⟩
theorem k_laload {x : Int32} {a : Nat} (t : TyC σ a 102) (h0 : 0 ≤ x.toInt) (h1 : x.toInt < alC σ a) (h : ∀ v : Int64, cwpC ct K Z is (pc + 1) ls (.inr (.inl v) :: st) σ) : cwpC ct K Z ((.laload, d, q, b, cs) :: is) pc ls (.inl x :: .inr (.inr (some a)) :: st) σ := ⟨a, rfl, t.rw, inC_of h0 h1, h _⟩
theorem k_aaload {x : Int32} {a t c : Nat} (hI : HIC σ) (ht : TyC σ a t) (hc : (t = 104 ∧ c = 2) ∨ (t = 105 ∧ c = 9)) (h0 : 0 ≤ x.toInt) (h1 : x.toInt < alC σ a) (h : ∀ v : Option Nat, eRC σ a x.toNatClampNeg = v → OtC σ v c → cwpC ct K Z is (pc + 1) ls (.inr (.inr v) :: st) σ) : cwpC ct K Z ((.aaload, d, q, b, cs) :: is) pc ls (.inl x :: .inr (.inr (some a)) :: st) σ := by
  refine ⟨a, t, rfl, ht.rw, by omega, inC_of h0 h1, h _ rfl (fun b' e => ?_)⟩
  rcases hc with ⟨rfl, rfl⟩ | ⟨rfl, rfl⟩
  · exact (hI.1 a ht.1).2.2.2.2.2.2.2.1 ht.2.1 _ b' e
  · exact (hI.1 a ht.1).2.2.2.2.2.2.2.2.1 ht.2.1 _ b' e
theorem k_aaloadE {x : Int32} {a t : Nat} {v : Option Nat} (ht : TyC σ a t) (hc : t = 104 ∨ t = 105) (h0 : 0 ≤ x.toInt) (h1 : x.toInt < alC σ a) (e : eRC σ a x.toNatClampNeg = v) (h : cwpC ct K Z is (pc + 1) ls (.inr (.inr v) :: st) σ) : cwpC ct K Z ((.aaload, d, q, b, cs) :: is) pc ls (.inl x :: .inr (.inr (some a)) :: st) σ := by
  subst e
  exact ⟨a, t, rfl, ht.rw, by omega, inC_of h0 h1, h⟩
theorem k_iastore {w x : Int32} {a : Nat} (hI : HIC σ) (t : TyC σ a 100) (hg : ghC σ a = 0) (h0 : 0 ≤ x.toInt) (h1 : x.toInt < alC σ a) (h : ∀ τ, HIC τ → ExC [] σ τ → cwpC ct K Z is (pc + 1) ls st τ) : cwpC ct K Z ((.iastore, d, q, b, cs) :: is) pc ls (.inl w :: .inl x :: .inr (.inr (some a)) :: st) σ := ⟨a, rfl, t.rw, inC_of h0 h1, h _ (hI.qI (by omega)) (ExC.qI (by rw [t.2.1, hg]; rfl))⟩
theorem k_iastore2 {w x : Int32} {a : Nat} (hI : HIC σ) (t : TyC σ a 100) (hg : 2 ≤ ghC σ a ∧ ghC σ a ≤ 4) (h0 : 0 ≤ x.toInt) (h1 : x.toInt < alC σ a) (h : ∀ τ, HIC τ → ExC [998] σ τ → eIC τ a x.toNatClampNeg = w → eIC τ = u1C (eIC σ) a (upd (eIC σ a) x.toNatClampNeg w) → cwpC ct K Z is (pc + 1) ls st τ) : cwpC ct K Z ((.iastore, d, q, b, cs) :: is) pc ls (.inl w :: .inl x :: .inr (.inr (some a)) :: st) σ := ⟨a, rfl, t.rw, inC_of h0 h1, h _ (hI.qI (by omega)) (ExC.qI (by rw [t.2.1]; exact prC.n8 hg.2)) (by show (u1C σ.2.2.2.1 a _ a) _ = w; rw [u1C_eq]; unfold upd; simp) rfl⟩
theorem k_iastore7 {w x : Int32} {a : Nat} (hI : HIC σ) (t : TyC σ a 100) (hg : ghC σ a = 7) (h0 : 0 ≤ x.toInt) (h1 : x.toInt < alC σ a) (h : ∀ τ, HIC τ → ExC [995] σ τ → τ = qIC σ a (upd (eIC σ a) x.toNatClampNeg w) → cwpC ct K Z is (pc + 1) ls st τ) : cwpC ct K Z ((.iastore, d, q, b, cs) :: is) pc ls (.inl w :: .inl x :: .inr (.inr (some a)) :: st) σ := ⟨a, rfl, t.rw, inC_of h0 h1, h _ (hI.qI (by omega)) (ExC.qI (by rw [t.2.1, hg]; rfl)) rfl⟩
theorem k_putIe {j k c a : Nat} {w : Int32} (hp : kpC k c = true) (hI : HIC σ) (t : TyC σ a c) (hk : fkC k = 0 ∨ (fkC k = 1 ∧ (w = 0 ∨ w = 1))) (h1 : (inC k).1 ≤ w.toInt) (h2 : w.toInt ≤ (inC k).2) (h : ∀ τ, HIC τ → ExC [k] σ τ → fIC τ a k = w → τ = pIC σ a k w → cwpC ct K Z is (pc + 3) ls st τ) : cwpC ct K Z ((.putfield j, d, q, k, cs) :: is) pc ls (.inl w :: .inr (.inr (some a)) :: st) σ :=
  ⟨a, rfl, kgCob (kpCof hp).1 t, hk, h _ (hI.pI t (kpCof hp).2.2.1 (kpCof hp).2.1 ⟨h1, h2⟩) (ExC.pI (by simp) (Or.inr (kpCof hp).2.1)) fI_pIs rfl⟩
theorem qI_s {a : Nat} {f : Nat → Int32} : eIC (qIC σ a f) a = f := u1C_eq
theorem qI_n {a b : Nat} {f : Nat → Int32} (h : b ≠ a) : eIC (qIC σ a f) b = eIC σ b := u1C_ne h
theorem k_ialoadE {x : Int32} {a : Nat} (t : TyC σ a 100) (h0 : 0 ≤ x.toInt) (h1 : x.toInt < alC σ a) (h : ∀ v : Int32, eIC σ a x.toNatClampNeg = v → cwpC ct K Z is (pc + 1) ls (.inl v :: st) σ) : cwpC ct K Z ((.iaload, d, q, b, cs) :: is) pc ls (.inl x :: .inr (.inr (some a)) :: st) σ := ⟨a, rfl, Or.inl ⟨t.rw, inC_of h0 h1, h _ rfl⟩⟩
theorem k_iastore1 {w x : Int32} {a : Nat} (hI : HIC σ) (t : TyC σ a 100) (hg : ghC σ a = 1) (h0 : 0 ≤ x.toInt) (h1 : x.toInt < alC σ a) (h2 : 0 ≤ w.toInt) (h3 : w.toInt ≤ 7500) (h : ∀ τ, HIC τ → ExC [] σ τ → cwpC ct K Z is (pc + 1) ls st τ) : cwpC ct K Z ((.iastore, d, q, b, cs) :: is) pc ls (.inl w :: .inl x :: .inr (.inr (some a)) :: st) σ := ⟨a, rfl, t.rw, inC_of h0 h1, h _ (hI.qI1 (c := 0) t hg h2 h3) (ExC.qI (by rw [t.2.1, hg]; rfl))⟩
theorem k_bastore {w x : Int32} {a : Nat} (hI : HIC σ) (t : TyC σ a 101) (h0 : 0 ≤ x.toInt) (h1 : x.toInt < alC σ a) (h : ∀ τ, HIC τ → ExC [997] σ τ → eIC τ = u1C (eIC σ) a (upd (eIC σ a) x.toNatClampNeg (vp_nar .byte w)) → cwpC ct K Z is (pc + 1) ls st τ) : cwpC ct K Z ((.bastore, d, q, b, cs) :: is) pc ls (.inl w :: .inl x :: .inr (.inr (some a)) :: st) σ := ⟨a, rfl, t.rw, inC_of h0 h1, h _ (hI.qB t) (ExC.qI (by rw [t.2.1]; rfl)) rfl⟩
theorem k_lastore {w : Int64} {x : Int32} {a : Nat} (hI : HIC σ) (t : TyC σ a 102) (hg : ghC σ a = 0) (h0 : 0 ≤ x.toInt) (h1 : x.toInt < alC σ a) (h : ∀ τ, HIC τ → ExC [] σ τ → cwpC ct K Z is (pc + 1) ls st τ) : cwpC ct K Z ((.lastore, d, q, b, cs) :: is) pc ls (.inr (.inl w) :: .inl x :: .inr (.inr (some a)) :: st) σ := ⟨a, rfl, t.rw, inC_of h0 h1, h _ hI.qL (ExC.qL (by rw [t.2.1, hg]; rfl))⟩
theorem k_lastore5 {w : Int64} {x : Int32} {a : Nat} (hI : HIC σ) (t : TyC σ a 102) (hg : ghC σ a = 5) (h0 : 0 ≤ x.toInt) (h1 : x.toInt < alC σ a) (h : ∀ τ, HIC τ → ExC [996] σ τ → eLC τ = u1C (eLC σ) a (vp_updL (eLC σ a) x.toNatClampNeg w) → cwpC ct K Z is (pc + 1) ls st τ) : cwpC ct K Z ((.lastore, d, q, b, cs) :: is) pc ls (.inr (.inl w) :: .inl x :: .inr (.inr (some a)) :: st) σ := ⟨a, rfl, t.rw, inC_of h0 h1, h _ hI.qL (ExC.qL (by rw [t.2.1, hg]; rfl)) rfl⟩
theorem k_aastore {w : Option Nat} {x : Int32} {a t c : Nat} (hI : HIC σ) (ht : TyC σ a t) (hc : (t = 104 ∧ c = 2) ∨ (t = 105 ∧ c = 9)) (h0 : 0 ≤ x.toInt) (h1 : x.toInt < alC σ a) (ho : OtC σ w c) (h : ∀ τ, HIC τ → ExC [] σ τ → cwpC ct K Z is (pc + 1) ls st τ) : cwpC ct K Z ((.aastore, d, q, b, cs) :: is) pc ls (.inr (.inr w) :: .inl x :: .inr (.inr (some a)) :: st) σ := by
  refine ⟨a, t, rfl, ht.rw, by omega, inC_of h0 h1, ?_, h _ (hI.qR ht hc ho) (ExC.qR (fun z => by have := ht.2.1; omega))⟩
  cases w with
  | none => trivial
  | some b' =>
    have := ho b' rfl
    rcases hc with ⟨rfl, rfl⟩ | ⟨rfl, rfl⟩
    · exact Or.inl ⟨rfl, this.ob (by decide)⟩
    · exact Or.inr (Or.inl ⟨rfl, this.ob (by decide)⟩)
theorem k_alen {a c n : Nat} (t : TyC σ a c) (h0 : 100 ≤ c) (h1 : c ≤ 105) (e : alC σ a = n) (hn : n < 2147483648) (h : ∀ x : Int32, x.toInt = (n : Int) → cwpC ct K Z is (pc + 1) ls (.inl x :: st) σ) : cwpC ct K Z ((.arraylength, d, q, b, cs) :: is) pc ls (.inr (.inr (some a)) :: st) σ := by
  refine ⟨a, rfl, Or.inl ⟨t.1, by rw [t.2.1]; exact h0, by rw [t.2.1]; exact h1, by rw [e]; exact hn, h _ ?_⟩⟩
  rw [e]
  exact Int32.toInt_ofNat_of_lt hn
theorem k_castS {j c a : Nat} (o : ObC σ a c) (h : cwpC ct K Z is (pc + 3) ls (.inr (.inr (some a)) :: st) σ) : cwpC ct K Z ((.checkcast j, d, q, c, cs) :: is) pc ls (.inr (.inr (some a)) :: st) σ := ⟨o, h⟩
theorem k_inv {j : Nat} {μ : Nat} {P : CpC} {Q : CqC} {As r : List AvC} {a : Nat} (h9 : Nat.beq μ 9998 = false) (hc : ctC ct μ = some (P, Q)) (hd : st.drop q.toNat = .inr (.inr (some a)) :: r) (ht : (st.take q.toNat).reverse = As) (h8 : csC r ≤ 8) (hr : RcC σ a cs.length) (hp : P (.inr (.inr (some a)) :: As) σ) (h : ∀ w τ, Q (.inr (.inr (some a)) :: As) σ w τ → cwpC ct K Z is (pc + 3) ls (w.toList ++ r) τ) : cwpC ct K Z ((.invokevirtual j, d, q, μ, cs) :: is) pc ls st σ := by
  show (match Nat.beq μ 9998 with
    | true => _
    | false => _)
  rw [h9]
  show (match ctC ct μ with
    | some (P, Q) => _
    | none => False)
  rw [hc]
  show (match st.drop q.toNat with
    | .inr (.inr (some a)) :: r => _
    | _ => False)
  rw [hd, ht]
  exact ⟨h8, hr, hp, h⟩
theorem k_spec {j : Nat} {μ : Nat} {P : CpC} {Q : CqC} {As r : List AvC} {a : Nat} (h9 : Nat.beq μ 9999 = false) (hc : ctC ct μ = some (P, Q)) (hd : st.drop q.toNat = .inr (.inr (some a)) :: r) (ht : (st.take q.toNat).reverse = As) (h8 : csC r ≤ 8) (hp : P (.inr (.inr (some a)) :: As) σ) (h : ∀ w τ, Q (.inr (.inr (some a)) :: As) σ w τ → cwpC ct K Z is (pc + 3) ls (w.toList ++ r) τ) : cwpC ct K Z ((.invokespecial j, d, q, μ, cs) :: is) pc ls st σ := by
  show (match Nat.beq μ 9999 with
    | true => _
    | false => _)
  rw [h9]
  show (match ctC ct μ with
    | some (P, Q) => _
    | none => False)
  rw [hc]
  show (match st.drop q.toNat with
    | .inr (.inr (some a)) :: r => _
    | _ => False)
  rw [hd, ht]
  exact ⟨h8, hp, h⟩
theorem k_obj {j : Nat} {a : Nat} {r : List AvC} (h8 : csC r ≤ 8) (h : cwpC ct K Z is (pc + 3) ls r σ) : cwpC ct K Z ((.invokespecial j, d, q, 9999, cs) :: is) pc ls (.inr (.inr (some a)) :: r) σ := ⟨h8, h⟩
theorem k_stat {j : Nat} {μ : Nat} {P : CpC} {Q : CqC} {As r : List AvC} (h9 : Nat.ble 9990 μ = false) (hc : ctC ct μ = some (P, Q)) (hl : q.toNat ≤ st.length) (hd : st.drop q.toNat = r) (ht : (st.take q.toNat).reverse = As) (h8 : csC r ≤ 8) (hp : P As σ) (h : ∀ w τ, Q As σ w τ → cwpC ct K Z is (pc + 3) ls (w.toList ++ r) τ) : cwpC ct K Z ((.invokestatic j, d, q, μ, cs) :: is) pc ls st σ := by
  show (match Nat.ble 9990 μ with
    | true => _
    | false => _)
  rw [h9]
  show (match ctC ct μ with
    | some (P, Q) => _
    | none => False)
  rw [hc]
  subst hd ht
  exact ⟨hl, h8, hp, h⟩
theorem k_mmin {j : Nat} {x y : Int32} (h8 : csC st ≤ 8) (h : ∀ z : Int32, z.toInt ≤ x.toInt → z.toInt ≤ y.toInt → (z.toInt = x.toInt ∨ z.toInt = y.toInt) → cwpC ct K Z is (pc + 3) ls (.inl z :: st) σ) : cwpC ct K Z ((.invokestatic j, d, q, 9996, cs) :: is) pc ls (.inl y :: .inl x :: st) σ := by
  refine ⟨h8, ?_⟩
  by_cases c : y < x
  · have c1 := Int32.lt_iff_toInt_lt.mp c
    have e : (if y < x then y else x) = y := if_pos c
    show cwpC ct K Z is (pc + 3) ls (.inl (if y < x then y else x) :: st) σ
    rw [e]
    exact h y (by omega) (by omega) (Or.inr rfl)
  · have c2 : ¬ y.toInt < x.toInt := fun z => c (Int32.lt_iff_toInt_lt.mpr z)
    have e : (if y < x then y else x) = x := if_neg c
    show cwpC ct K Z is (pc + 3) ls (.inl (if y < x then y else x) :: st) σ
    rw [e]
    exact h x (by omega) (by omega) (Or.inl rfl)
theorem k_mmax {j : Nat} {x y : Int32} (h8 : csC st ≤ 8) (h : ∀ z : Int32, z.toInt = max x.toInt y.toInt → cwpC ct K Z is (pc + 3) ls (.inl z :: st) σ) : cwpC ct K Z ((.invokestatic j, d, q, 9995, cs) :: is) pc ls (.inl y :: .inl x :: st) σ := by
  refine ⟨h8, h _ ?_⟩
  by_cases c : x < y
  · rw [if_pos c]; have c1 := Int32.lt_iff_toInt_lt.mp c; omega
  · rw [if_neg c]; have c2 : ¬ x.toInt < y.toInt := fun z => c (Int32.lt_iff_toInt_lt.mpr z); omega
theorem TyC.rc {a c : Nat} (t : TyC σ a c) (h : c < 13) : RcC σ a c := Or.inl ⟨t.ob h, h⟩
theorem TyC.ot {a c : Nat} (t : TyC σ a c) : OtC σ (some a) c := fun b e => by cases e; exact t
theorem OtC.n {c : Nat} : OtC σ none c := fun b e => by cases e
end KR
theorem kg0 : kgC 0 0 = true := by decide
theorem fk0 : fkC 0 = 0 := by decide
theorem kp0 : kpC 0 0 = true := by decide
theorem kg1 : kgC 1 0 = true := by decide
theorem fk1 : fkC 1 = 3 := by decide
theorem kg2 : kgC 2 0 = true := by decide
theorem fk2 : fkC 2 = 0 := by decide
theorem kg30 : kgC 30 1 = true := by decide
theorem fk30 : fkC 30 = 3 := by decide
theorem kg31 : kgC 31 1 = true := by decide
theorem fk31 : fkC 31 = 3 := by decide
theorem kg32 : kgC 32 1 = true := by decide
theorem fk32 : fkC 32 = 3 := by decide
theorem kg33 : kgC 33 1 = true := by decide
theorem fk33 : fkC 33 = 3 := by decide
theorem kg34 : kgC 34 1 = true := by decide
theorem fk34 : fkC 34 = 0 := by decide
theorem kp34 : kpC 34 1 = true := by decide
theorem kg35 : kgC 35 1 = true := by decide
theorem fk35 : fkC 35 = 3 := by decide
theorem kp35 : kpC 35 1 = true := by decide
theorem rf35 {σ : CsC} {a b : Nat} (t : TyC σ b 7) : RfC σ a 35 (some b) := Or.inr ⟨t, Or.inl rfl, Or.inl rfl, fun z => absurd z (by decide), fun z => absurd z (by decide)⟩
theorem kg36 : kgC 36 1 = true := by decide
theorem fk36 : fkC 36 = 3 := by decide
theorem kp36 : kpC 36 1 = true := by decide
theorem rf36 {σ : CsC} {a b : Nat} (t : TyC σ b 9) : RfC σ a 36 (some b) := Or.inr ⟨t, Or.inl rfl, Or.inl rfl, fun z => absurd z (by decide), fun z => absurd z (by decide)⟩
theorem kg60 : kgC 60 2 = true := by decide
theorem fk60 : fkC 60 = 0 := by decide
theorem kg61 : kgC 61 2 = true := by decide
theorem fk61 : fkC 61 = 0 := by decide
theorem kg62 : kgC 62 2 = true := by decide
theorem fk62 : fkC 62 = 0 := by decide
theorem kg63 : kgC 63 2 = true := by decide
theorem fk63 : fkC 63 = 0 := by decide
theorem kg64 : kgC 64 2 = true := by decide
theorem fk64 : fkC 64 = 0 := by decide
theorem kp64 : kpC 64 2 = true := by decide
theorem kg65 : kgC 65 2 = true := by decide
theorem fk65 : fkC 65 = 0 := by decide
theorem kp65 : kpC 65 2 = true := by decide
theorem kg66 : kgC 66 2 = true := by decide
theorem fk66 : fkC 66 = 0 := by decide
theorem kp66 : kpC 66 2 = true := by decide
theorem kg67 : kgC 67 2 = true := by decide
theorem fk67 : fkC 67 = 0 := by decide
theorem kp67 : kpC 67 2 = true := by decide
theorem kg68 : kgC 68 2 = true := by decide
theorem fk68 : fkC 68 = 0 := by decide
theorem kp68 : kpC 68 2 = true := by decide
theorem kg69 : kgC 69 2 = true := by decide
theorem fk69 : fkC 69 = 0 := by decide
theorem kp69 : kpC 69 2 = true := by decide
theorem kg70 : kgC 70 2 = true := by decide
theorem fk70 : fkC 70 = 1 := by decide
theorem kp70 : kpC 70 2 = true := by decide
theorem kg71 : kgC 71 2 = true := by decide
theorem fk71 : fkC 71 = 2 := by decide
theorem kp71 : kpC 71 2 = true := by decide
theorem kg72 : kgC 72 2 = true := by decide
theorem fk72 : fkC 72 = 3 := by decide
theorem kp72 : kpC 72 2 = true := by decide
theorem rf72 {σ : CsC} {a b : Nat} (t : TyC σ b 2) : RfC σ a 72 (some b) := Or.inr ⟨t, Or.inl rfl, Or.inl rfl, fun z => absurd z (by decide), fun z => absurd z (by decide)⟩
theorem rfo72 {σ : CsC} {a : Nat} {o : Option Nat} (t : OtC σ o 2) : RfC σ a 72 o := by
  cases o with
  | none => exact (rfl : (rfC 72).1 = 1)
  | some b => exact rf72 (t b rfl)
theorem kg73 : kgC 73 2 = true := by decide
theorem fk73 : fkC 73 = 3 := by decide
theorem kg74 : kgC 74 2 = true := by decide
theorem fk74 : fkC 74 = 3 := by decide
theorem kp74 : kpC 74 2 = true := by decide
theorem rf74 {σ : CsC} {a b : Nat} (t : TyC σ b 2) : RfC σ a 74 (some b) := Or.inr ⟨t, Or.inl rfl, Or.inl rfl, fun z => absurd z (by decide), fun z => absurd z (by decide)⟩
theorem rfo74 {σ : CsC} {a : Nat} {o : Option Nat} (t : OtC σ o 2) : RfC σ a 74 o := by
  cases o with
  | none => exact (rfl : (rfC 74).1 = 1)
  | some b => exact rf74 (t b rfl)
theorem kg75 : kgC 75 2 = true := by decide
theorem fk75 : fkC 75 = 3 := by decide
theorem kg76 : kgC 76 2 = true := by decide
theorem fk76 : fkC 76 = 3 := by decide
theorem kp76 : kpC 76 2 = true := by decide
theorem rf76 {σ : CsC} {a b : Nat} (t : TyC σ b 2) : RfC σ a 76 (some b) := Or.inr ⟨t, Or.inl rfl, Or.inl rfl, fun z => absurd z (by decide), fun z => absurd z (by decide)⟩
theorem rfo76 {σ : CsC} {a : Nat} {o : Option Nat} (t : OtC σ o 2) : RfC σ a 76 o := by
  cases o with
  | none => exact (rfl : (rfC 76).1 = 1)
  | some b => exact rf76 (t b rfl)
theorem kg77 : kgC 77 2 = true := by decide
theorem fk77 : fkC 77 = 0 := by decide
theorem kp77 : kpC 77 2 = true := by decide
theorem kg90 : kgC 90 3 = true := by decide
theorem fk90 : fkC 90 = 3 := by decide
theorem kp90 : kpC 90 3 = true := by decide
theorem rf90 {σ : CsC} {a b : Nat} (t : TyC σ b 7) : RfC σ a 90 (some b) := Or.inr ⟨t, Or.inl rfl, Or.inl rfl, fun z => absurd z (by decide), fun z => absurd z (by decide)⟩
theorem kg91 : kgC 91 3 = true := by decide
theorem fk91 : fkC 91 = 2 := by decide
theorem kp91 : kpC 91 3 = true := by decide
theorem kg92 : kgC 92 3 = true := by decide
theorem fk92 : fkC 92 = 2 := by decide
theorem kp92 : kpC 92 3 = true := by decide
theorem kg93 : kgC 93 3 = true := by decide
theorem fk93 : fkC 93 = 3 := by decide
theorem kg94 : kgC 94 3 = true := by decide
theorem fk94 : fkC 94 = 0 := by decide
theorem kp94 : kpC 94 3 = true := by decide
theorem kg120 : kgC 120 4 = true := by decide
theorem fk120 : fkC 120 = 3 := by decide
theorem kg121 : kgC 121 4 = true := by decide
theorem fk121 : fkC 121 = 3 := by decide
theorem kp121 : kpC 121 4 = true := by decide
theorem rf121 {σ : CsC} {a b : Nat} (t : TyC σ b 7) : RfC σ a 121 (some b) := Or.inr ⟨t, Or.inl rfl, Or.inl rfl, fun z => absurd z (by decide), fun z => absurd z (by decide)⟩
theorem kg150 : kgC 150 5 = true := by decide
theorem fk150 : fkC 150 = 3 := by decide
theorem kg151 : kgC 151 5 = true := by decide
theorem fk151 : fkC 151 = 3 := by decide
theorem kg152 : kgC 152 5 = true := by decide
theorem fk152 : fkC 152 = 3 := by decide
theorem kg153 : kgC 153 5 = true := by decide
theorem fk153 : fkC 153 = 3 := by decide
theorem kg154 : kgC 154 5 = true := by decide
theorem fk154 : fkC 154 = 3 := by decide
theorem kg155 : kgC 155 5 = true := by decide
theorem fk155 : fkC 155 = 3 := by decide
theorem kg156 : kgC 156 5 = true := by decide
theorem fk156 : fkC 156 = 3 := by decide
theorem kg157 : kgC 157 5 = true := by decide
theorem fk157 : fkC 157 = 3 := by decide
theorem kg158 : kgC 158 5 = true := by decide
theorem fk158 : fkC 158 = 3 := by decide
theorem kg159 : kgC 159 5 = true := by decide
theorem fk159 : fkC 159 = 3 := by decide
theorem kg160 : kgC 160 5 = true := by decide
theorem fk160 : fkC 160 = 0 := by decide
theorem kg161 : kgC 161 5 = true := by decide
theorem fk161 : fkC 161 = 0 := by decide
theorem kp161 : kpC 161 5 = true := by decide
theorem kg162 : kgC 162 5 = true := by decide
theorem fk162 : fkC 162 = 0 := by decide
theorem kp162 : kpC 162 5 = true := by decide
theorem kg163 : kgC 163 5 = true := by decide
theorem fk163 : fkC 163 = 0 := by decide
theorem kp163 : kpC 163 5 = true := by decide
theorem kg164 : kgC 164 5 = true := by decide
theorem fk164 : fkC 164 = 0 := by decide
theorem kp164 : kpC 164 5 = true := by decide
theorem kg165 : kgC 165 5 = true := by decide
theorem fk165 : fkC 165 = 0 := by decide
theorem kg166 : kgC 166 5 = true := by decide
theorem fk166 : fkC 166 = 0 := by decide
theorem kp166 : kpC 166 5 = true := by decide
theorem kg167 : kgC 167 5 = true := by decide
theorem fk167 : fkC 167 = 0 := by decide
theorem kg168 : kgC 168 5 = true := by decide
theorem fk168 : fkC 168 = 0 := by decide
theorem kp168 : kpC 168 5 = true := by decide
theorem kg169 : kgC 169 5 = true := by decide
theorem fk169 : fkC 169 = 0 := by decide
theorem kp169 : kpC 169 5 = true := by decide
theorem kg170 : kgC 170 5 = true := by decide
theorem fk170 : fkC 170 = 2 := by decide
theorem kp170 : kpC 170 5 = true := by decide
theorem kg180 : kgC 180 6 = true := by decide
theorem fk180 : fkC 180 = 0 := by decide
theorem kg181 : kgC 181 6 = true := by decide
theorem fk181 : fkC 181 = 2 := by decide
theorem kg182 : kgC 182 6 = true := by decide
theorem fk182 : fkC 182 = 0 := by decide
theorem kg183 : kgC 183 6 = true := by decide
theorem fk183 : fkC 183 = 3 := by decide
theorem kg184 : kgC 184 6 = true := by decide
theorem fk184 : fkC 184 = 0 := by decide
theorem kg185 : kgC 185 6 = true := by decide
theorem fk185 : fkC 185 = 0 := by decide
theorem kp185 : kpC 185 6 = true := by decide
theorem kg186 : kgC 186 6 = true := by decide
theorem fk186 : fkC 186 = 3 := by decide
theorem kg210 : kgC 210 7 = true := by decide
theorem fk210 : fkC 210 = 3 := by decide
theorem kg211 : kgC 211 7 = true := by decide
theorem fk211 : fkC 211 = 3 := by decide
theorem kg212 : kgC 212 7 = true := by decide
theorem fk212 : fkC 212 = 3 := by decide
theorem kg213 : kgC 213 7 = true := by decide
theorem fk213 : fkC 213 = 3 := by decide
theorem kg214 : kgC 214 7 = true := by decide
theorem fk214 : fkC 214 = 3 := by decide
theorem kg215 : kgC 215 7 = true := by decide
theorem fk215 : fkC 215 = 3 := by decide
theorem kg216 : kgC 216 7 = true := by decide
theorem fk216 : fkC 216 = 3 := by decide
theorem kg217 : kgC 217 7 = true := by decide
theorem fk217 : fkC 217 = 0 := by decide
theorem kp217 : kpC 217 7 = true := by decide
theorem kg218 : kgC 218 7 = true := by decide
theorem fk218 : fkC 218 = 0 := by decide
theorem kp218 : kpC 218 7 = true := by decide
theorem kg240 : kgC 240 8 = true := by decide
theorem fk240 : fkC 240 = 3 := by decide
theorem kp240 : kpC 240 8 = true := by decide
theorem rf240 {σ : CsC} {a b : Nat} (t : TyC σ b 7) : RfC σ a 240 (some b) := Or.inr ⟨t, Or.inl rfl, Or.inl rfl, fun z => absurd z (by decide), fun z => absurd z (by decide)⟩
theorem kg241 : kgC 241 8 = true := by decide
theorem fk241 : fkC 241 = 3 := by decide
theorem kp241 : kpC 241 8 = true := by decide
theorem rf241 {σ : CsC} {a b : Nat} (t : TyC σ b 10) : RfC σ a 241 (some b) := Or.inr ⟨t, Or.inl rfl, Or.inl rfl, fun z => absurd z (by decide), fun z => absurd z (by decide)⟩
theorem kg242 : kgC 242 8 = true := by decide
theorem fk242 : fkC 242 = 0 := by decide
theorem kp242 : kpC 242 8 = true := by decide
theorem kg243 : kgC 243 8 = true := by decide
theorem fk243 : fkC 243 = 0 := by decide
theorem kp243 : kpC 243 8 = true := by decide
theorem kg244 : kgC 244 8 = true := by decide
theorem fk244 : fkC 244 = 0 := by decide
theorem kp244 : kpC 244 8 = true := by decide
theorem kg245 : kgC 245 8 = true := by decide
theorem fk245 : fkC 245 = 2 := by decide
theorem kp245 : kpC 245 8 = true := by decide
theorem kg246 : kgC 246 8 = true := by decide
theorem fk246 : fkC 246 = 3 := by decide
theorem kp246 : kpC 246 8 = true := by decide
theorem rf246 {σ : CsC} {a b : Nat} (t : TyC σ b 9) : RfC σ a 246 (some b) := Or.inr ⟨t, Or.inl rfl, Or.inl rfl, fun z => absurd z (by decide), fun z => absurd z (by decide)⟩
theorem rfo246 {σ : CsC} {a : Nat} {o : Option Nat} (t : OtC σ o 9) : RfC σ a 246 o := by
  cases o with
  | none => exact (rfl : (rfC 246).1 = 1)
  | some b => exact rf246 (t b rfl)
theorem kg270 : kgC 270 9 = true := by decide
theorem fk270 : fkC 270 = 0 := by decide
theorem kg271 : kgC 271 9 = true := by decide
theorem fk271 : fkC 271 = 0 := by decide
theorem kg272 : kgC 272 9 = true := by decide
theorem fk272 : fkC 272 = 0 := by decide
theorem kg273 : kgC 273 9 = true := by decide
theorem fk273 : fkC 273 = 3 := by decide
theorem kg274 : kgC 274 9 = true := by decide
theorem fk274 : fkC 274 = 2 := by decide
theorem kg275 : kgC 275 9 = true := by decide
theorem fk275 : fkC 275 = 3 := by decide
theorem kg276 : kgC 276 9 = true := by decide
theorem fk276 : fkC 276 = 3 := by decide
theorem kg277 : kgC 277 9 = true := by decide
theorem fk277 : fkC 277 = 3 := by decide
theorem kg278 : kgC 278 9 = true := by decide
theorem fk278 : fkC 278 = 3 := by decide
theorem kg279 : kgC 279 9 = true := by decide
theorem fk279 : fkC 279 = 3 := by decide
theorem kp279 : kpC 279 9 = true := by decide
theorem rf279 {σ : CsC} {a b : Nat} (t : TyC σ b 2) : RfC σ a 279 (some b) := Or.inr ⟨t, Or.inl rfl, Or.inl rfl, fun z => absurd z (by decide), fun z => absurd z (by decide)⟩
theorem rfo279 {σ : CsC} {a : Nat} {o : Option Nat} (t : OtC σ o 2) : RfC σ a 279 o := by
  cases o with
  | none => exact (rfl : (rfC 279).1 = 1)
  | some b => exact rf279 (t b rfl)
theorem kg280 : kgC 280 9 = true := by decide
theorem fk280 : fkC 280 = 0 := by decide
theorem kg281 : kgC 281 9 = true := by decide
theorem fk281 : fkC 281 = 3 := by decide
theorem kp281 : kpC 281 9 = true := by decide
theorem rf281 {σ : CsC} {a b : Nat} (t : TyC σ b 9) : RfC σ a 281 (some b) := Or.inr ⟨t, Or.inl rfl, Or.inl rfl, fun z => absurd z (by decide), fun z => absurd z (by decide)⟩
theorem rfo281 {σ : CsC} {a : Nat} {o : Option Nat} (t : OtC σ o 9) : RfC σ a 281 o := by
  cases o with
  | none => exact (rfl : (rfC 281).1 = 1)
  | some b => exact rf281 (t b rfl)
theorem kg282 : kgC 282 9 = true := by decide
theorem fk282 : fkC 282 = 1 := by decide
theorem kp282 : kpC 282 9 = true := by decide
theorem kg283 : kgC 283 9 = true := by decide
theorem fk283 : fkC 283 = 1 := by decide
theorem kp283 : kpC 283 9 = true := by decide
theorem kg284 : kgC 284 9 = true := by decide
theorem fk284 : fkC 284 = 1 := by decide
theorem kp284 : kpC 284 9 = true := by decide
theorem kg285 : kgC 285 9 = true := by decide
theorem fk285 : fkC 285 = 2 := by decide
theorem kp285 : kpC 285 9 = true := by decide
theorem kg286 : kgC 286 9 = true := by decide
theorem fk286 : fkC 286 = 2 := by decide
theorem kp286 : kpC 286 9 = true := by decide
theorem kg287 : kgC 287 9 = true := by decide
theorem fk287 : fkC 287 = 2 := by decide
theorem kp287 : kpC 287 9 = true := by decide
theorem kg288 : kgC 288 9 = true := by decide
theorem fk288 : fkC 288 = 2 := by decide
theorem kp288 : kpC 288 9 = true := by decide
theorem kg289 : kgC 289 9 = true := by decide
theorem fk289 : fkC 289 = 0 := by decide
theorem kp289 : kpC 289 9 = true := by decide
theorem kg290 : kgC 290 9 = true := by decide
theorem fk290 : fkC 290 = 0 := by decide
theorem kp290 : kpC 290 9 = true := by decide
theorem kg300 : kgC 300 10 = true := by decide
theorem fk300 : fkC 300 = 3 := by decide
theorem kg301 : kgC 301 10 = true := by decide
theorem fk301 : fkC 301 = 3 := by decide
theorem kg302 : kgC 302 10 = true := by decide
theorem fk302 : fkC 302 = 3 := by decide
theorem kg303 : kgC 303 10 = true := by decide
theorem fk303 : fkC 303 = 3 := by decide
theorem kg304 : kgC 304 10 = true := by decide
theorem fk304 : fkC 304 = 3 := by decide
theorem kg305 : kgC 305 10 = true := by decide
theorem fk305 : fkC 305 = 0 := by decide
theorem kp305 : kpC 305 10 = true := by decide
theorem kg306 : kgC 306 10 = true := by decide
theorem fk306 : fkC 306 = 3 := by decide
theorem kg307 : kgC 307 10 = true := by decide
theorem fk307 : fkC 307 = 3 := by decide
theorem kg308 : kgC 308 10 = true := by decide
theorem fk308 : fkC 308 = 0 := by decide
theorem kg330 : kgC 330 11 = true := by decide
theorem fk330 : fkC 330 = 0 := by decide
theorem kg331 : kgC 331 11 = true := by decide
theorem fk331 : fkC 331 = 0 := by decide
theorem kg332 : kgC 332 11 = true := by decide
theorem fk332 : fkC 332 = 1 := by decide
theorem kg333 : kgC 333 11 = true := by decide
theorem fk333 : fkC 333 = 0 := by decide
theorem kg334 : kgC 334 11 = true := by decide
theorem fk334 : fkC 334 = 1 := by decide
theorem kp334 : kpC 334 11 = true := by decide
theorem kg335 : kgC 335 11 = true := by decide
theorem fk335 : fkC 335 = 1 := by decide
theorem kp335 : kpC 335 11 = true := by decide
theorem kg336 : kgC 336 11 = true := by decide
theorem fk336 : fkC 336 = 2 := by decide
theorem kp336 : kpC 336 11 = true := by decide
theorem kg360 : kgC 360 12 = true := by decide
theorem fk360 : fkC 360 = 3 := by decide
theorem kg361 : kgC 361 12 = true := by decide
theorem fk361 : fkC 361 = 3 := by decide
theorem kg362 : kgC 362 12 = true := by decide
theorem fk362 : fkC 362 = 3 := by decide
theorem kg363 : kgC 363 12 = true := by decide
theorem fk363 : fkC 363 = 3 := by decide
theorem kp363 : kpC 363 12 = true := by decide
theorem rf363 {σ : CsC} {a b : Nat} (t : TyC σ b 7) : RfC σ a 363 (some b) := Or.inr ⟨t, Or.inl rfl, Or.inl rfl, fun z => absurd z (by decide), fun z => absurd z (by decide)⟩
theorem kg364 : kgC 364 12 = true := by decide
theorem fk364 : fkC 364 = 3 := by decide
theorem kp364 : kpC 364 12 = true := by decide
theorem rf364 {σ : CsC} {a b : Nat} (t : TyC σ b 7) : RfC σ a 364 (some b) := Or.inr ⟨t, Or.inl rfl, Or.inl rfl, fun z => absurd z (by decide), fun z => absurd z (by decide)⟩
theorem kg365 : kgC 365 12 = true := by decide
theorem fk365 : fkC 365 = 3 := by decide
theorem kg366 : kgC 366 12 = true := by decide
theorem fk366 : fkC 366 = 3 := by decide
theorem kg367 : kgC 367 12 = true := by decide
theorem fk367 : fkC 367 = 3 := by decide
theorem kg368 : kgC 368 12 = true := by decide
theorem fk368 : fkC 368 = 3 := by decide
theorem kg369 : kgC 369 12 = true := by decide
theorem fk369 : fkC 369 = 0 := by decide
theorem kp369 : kpC 369 12 = true := by decide
theorem kg370 : kgC 370 12 = true := by decide
theorem fk370 : fkC 370 = 0 := by decide
theorem kp370 : kpC 370 12 = true := by decide
theorem kg371 : kgC 371 12 = true := by decide
theorem fk371 : fkC 371 = 0 := by decide
theorem kp371 : kpC 371 12 = true := by decide
theorem kg372 : kgC 372 12 = true := by decide
theorem fk372 : fkC 372 = 1 := by decide
theorem kp372 : kpC 372 12 = true := by decide
