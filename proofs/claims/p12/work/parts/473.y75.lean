/-! what a token means, where tokens are apart -/
theorem tkl_in : ∀ {L : List ItZ} {x : XrZ}, .inl x ∈ L → NmI x → 0 < (tkL L).count x.2.1.1 := by
  intro L x h hx
  obtain ⟨t, m, rfl⟩ := List.append_of_mem h
  rw [tkl_app, List.count_append]
  have e : tkL (Sum.inl x :: m) = x.2.1.1 :: tkL m := if_pos hx
  rw [e, ct_1, if_pos rfl]
  omega
theorem me_sk {b kd : Nat → Int} {T : TbT} {m : List ItZ} {q : Nat} : ∀ {t : List ItZ}, (tkL (t ++ m)).count (q : Int) ≤ 1 → 0 < (tkL m).count (q : Int) → meZ b kd T (t ++ m) q = meZ b kd T m q := by
  intro t
  induction t with
  | nil => exact fun _ _ => rfl
  | cons w t ih =>
    intro h h0
    have hs : (tkL (t ++ m)).count (q : Int) ≤ (tkL (w :: (t ++ m))).count (q : Int) := by
      have e : tkL (w :: (t ++ m)) = tkL [w] ++ tkL (t ++ m) := tkl_app (a := [w])
      rw [e, List.count_append]
      omega
    have h : (tkL (w :: (t ++ m))).count (q : Int) ≤ 1 := h
    have hi := ih (by omega) h0
    have h1 : 0 < (tkL (t ++ m)).count (q : Int) := by
      rw [tkl_app, List.count_append]
      omega
    cases w with
    | inl x =>
      have no : ¬ ((x.1.1 = 2 ∨ x.1.1 = 6 ∨ x.1.1 = 9 ∨ x.1.1 = 10) ∧ x.2.1.1 = (q : Int)) := fun ⟨c1, c2⟩ => by
        have e : tkL (Sum.inl x :: (t ++ m)) = x.2.1.1 :: tkL (t ++ m) := if_pos c1
        rw [e, ct_1, if_pos c2] at h
        omega
      show (if (x.1.1 = 2 ∨ x.1.1 = 6 ∨ x.1.1 = 9) ∧ (q : Int) = x.2.1.1 then x.2.1.2.1 else if x.1.1 = 10 ∧ (q : Int) = x.2.1.1 then 100 + (T.1 (xcZ (t ++ m))).2.2.2 else meZ b kd T (t ++ m) q) = _
      rw [if_neg (fun c => no ⟨by omega, c.2.symm⟩), if_neg (fun c => no ⟨by omega, c.2.symm⟩)]
      exact hi
    | inr y =>
      have no : ¬ ((y.1 = 41 ∨ y.1 = 46 ∨ y.1 = 47) ∧ y.2.2.2.1 = (q : Int)) := fun ⟨c1, c2⟩ => by
        have e : tkL (Sum.inr y :: (t ++ m)) = y.2.2.2.1 :: tkL (t ++ m) := if_pos c1
        rw [e, ct_1, if_pos c2] at h
        omega
      show (if (y.1 = 41 ∨ ((y.1 = 46 ∨ y.1 = 47) ∧ kd y.2.2.2.1.toNat = 1)) ∧ (q : Int) = y.2.2.2.1 then 200 else meZ b kd T (t ++ m) q) = _
      rw [if_neg (fun c => no ⟨by omega, c.2.symm⟩)]
      exact hi
/-- NAMES of variables in exps -/
theorem me_it {b kd : Nat → Int} {T : TbT} {L : List ItZ} (hc : ∀ q, (tkL L).count q ≤ 1) {y : XrZ} (hy : .inl y ∈ L) (k : y.1.1 = 2 ∨ y.1.1 = 6 ∨ y.1.1 = 9) (h0 : 0 ≤ y.2.1.1) : meZ b kd T L y.2.1.1.toNat = y.2.1.2.1 := by
  have e0 : ((y.2.1.1.toNat : Nat) : Int) = y.2.1.1 := Int.toNat_of_nonneg h0
  obtain ⟨t, m, rfl⟩ := List.append_of_mem hy
  have c : 0 < (tkL (Sum.inl y :: m)).count ((y.2.1.1.toNat : Nat) : Int) := by
    rw [e0]
    exact tkl_in List.mem_cons_self (by unfold NmI; omega)
  rw [me_sk (hc _) c]
  exact if_pos ⟨k, e0⟩
/-- NAMES of methods in exps -/
theorem me_10 {b kd : Nat → Int} {T : TbT} {L l : List ItZ} (hc : ∀ q, (tkL L).count q ≤ 1) {y : XrZ} (hy : (.inl y :: l) <:+ L) (k : y.1.1 = 10) (h0 : 0 ≤ y.2.1.1) : meZ b kd T L y.2.1.1.toNat = 100 + (T.1 (xcZ l)).2.2.2 := by
  have e0 : ((y.2.1.1.toNat : Nat) : Int) = y.2.1.1 := Int.toNat_of_nonneg h0
  obtain ⟨t, rfl⟩ := hy
  have c : 0 < (tkL (Sum.inl y :: l)).count ((y.2.1.1.toNat : Nat) : Int) := by
    rw [e0]
    exact tkl_in List.mem_cons_self (by unfold NmI; omega)
  rw [me_sk (hc _) c]
  exact (if_neg (fun c => by have := c.1; omega)).trans (if_pos ⟨k, e0⟩)
/-- labels -/
theorem me_la {b kd : Nat → Int} {T : TbT} {L l : List ItZ} (hc : ∀ q, (tkL L).count q ≤ 1) {y : Int × Int × Int × Int × Int} (hy : (.inr y :: l) <:+ L) (k : y.1 = 41 ∨ ((y.1 = 46 ∨ y.1 = 47) ∧ kd y.2.2.2.1.toNat = 1)) (h0 : 0 ≤ y.2.2.2.1) : meZ b kd T L y.2.2.2.1.toNat = 200 := by
  have e0 : ((y.2.2.2.1.toNat : Nat) : Int) = y.2.2.2.1 := Int.toNat_of_nonneg h0
  obtain ⟨t, rfl⟩ := hy
  have c : 0 < (tkL (Sum.inr y :: l)).count ((y.2.2.2.1.toNat : Nat) : Int) := by
    have e : tkL (Sum.inr y :: l) = y.2.2.2.1 :: tkL l := if_pos (by omega)
    rw [e, e0, ct_1, if_pos rfl]
    omega
  rw [me_sk (hc _) c]
  exact if_pos ⟨k, e0⟩
/-- no NAME of an exp, no label -/
theorem me_no {b kd : Nat → Int} {T : TbT} {q : Nat} : ∀ {L : List ItZ}, (tkL L).count (q : Int) = 0 → meZ b kd T L q = b q := by
  intro L
  induction L with
  | nil => exact fun _ => rfl
  | cons w l ih =>
    intro h
    cases w with
    | inl x =>
      have no : ¬ ((x.1.1 = 2 ∨ x.1.1 = 6 ∨ x.1.1 = 9 ∨ x.1.1 = 10) ∧ x.2.1.1 = (q : Int)) := fun ⟨c1, c2⟩ => by
        have e : tkL (Sum.inl x :: l) = x.2.1.1 :: tkL l := if_pos c1
        rw [e, ct_1, if_pos c2] at h
        omega
      have hl : (tkL l).count (q : Int) = 0 := by
        have e : tkL (Sum.inl x :: l) = tkL [.inl x] ++ tkL l := tkl_app (a := [.inl x])
        rw [e, List.count_append] at h
        omega
      show (if (x.1.1 = 2 ∨ x.1.1 = 6 ∨ x.1.1 = 9) ∧ (q : Int) = x.2.1.1 then x.2.1.2.1 else if x.1.1 = 10 ∧ (q : Int) = x.2.1.1 then 100 + (T.1 (xcZ l)).2.2.2 else meZ b kd T l q) = _
      rw [if_neg (fun c => no ⟨by omega, c.2.symm⟩), if_neg (fun c => no ⟨by omega, c.2.symm⟩)]
      exact ih hl
    | inr y =>
      have no : ¬ ((y.1 = 41 ∨ y.1 = 46 ∨ y.1 = 47) ∧ y.2.2.2.1 = (q : Int)) := fun ⟨c1, c2⟩ => by
        have e : tkL (Sum.inr y :: l) = y.2.2.2.1 :: tkL l := if_pos c1
        rw [e, ct_1, if_pos c2] at h
        omega
      have hl : (tkL l).count (q : Int) = 0 := by
        have e : tkL (Sum.inr y :: l) = tkL [.inr y] ++ tkL l := tkl_app (a := [.inr y])
        rw [e, List.count_append] at h
        omega
      show (if (y.1 = 41 ∨ ((y.1 = 46 ∨ y.1 = 47) ∧ kd y.2.2.2.1.toNat = 1)) ∧ (q : Int) = y.2.2.2.1 then 200 else meZ b kd T l q) = _
      rw [if_neg (fun c => no ⟨by omega, c.2.symm⟩)]
      exact ih hl
