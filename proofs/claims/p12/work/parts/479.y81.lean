/-! what judging asks of exps, out of what is read -/
section
variable {N : Int → Int} {σ : RS} {z : ZS} {Ko Ki : Int}
/-- no two methods are alike, where none is told twice -/
theorem nd_of (R : RdW N σ z) (h : ∀ k, k < nT (gI σ 36) → m1T (msM N Ko Ki z.1) k 12) : NdT (msM N Ko Ki z.1) := by
  obtain ⟨⟨r1, r2⟩, _, _⟩ := R.ms
  have n36 := (nt_pos r1).1
  have l := Int32.le_iff_toInt_le.mp r2
  have l : (gI σ 36).toInt ≤ 10 := l
  have key : ∀ i j a b, i < j ∨ 10 ≤ i → i < 12 → j < nT (gI σ 36) → msM N Ko Ki z.1 i = some a → msM N Ko Ki z.1 j = some b → a.1 = b.1 → a.2.2 = b.2.2 → False := fun i j a b hi hi2 hj ha hb e1 e2 => m1_el (h j hj) i hi2 hi a b ha hb ⟨e1, e2⟩
  have e10 : msM N Ko Ki z.1 10 = some (Ko, 5, [4]) := rfl
  have e11 : msM N Ko Ki z.1 11 = some (Ki, 3, []) := rfl
  intro i j a b hi hj ha hb e1 e2
  have ci := (ms_some (Ko := Ko) (Ki := Ki) R).mp ⟨a, ha⟩
  have cj := (ms_some (Ko := Ko) (Ki := Ki) R).mp ⟨b, hb⟩
  by_cases q : i = j
  · exact q
  exfalso
  rcases ci with c | c
  · rcases cj with d | d
    · rcases Nat.lt_or_ge i j with g | g
      · exact key i j a b (Or.inl g) hi d ha hb e1 e2
      · exact key j i b a (Or.inl (by omega)) hj c hb ha e1.symm e2.symm
    · exact key j i b a (Or.inr (by omega)) hj c hb ha e1.symm e2.symm
  · rcases cj with d | d
    · exact key i j a b (Or.inr (by omega)) hi d ha hb e1 e2
    · rcases c with c | c
      · rcases d with d | d
        · omega
        · rw [c, e10] at ha
          rw [d, e11] at hb
          obtain rfl := Option.some.inj ha
          obtain rfl := Option.some.inj hb
          cases e2
      · rcases d with d | d
        · rw [c, e11] at ha
          rw [d, e10] at hb
          obtain rfl := Option.some.inj ha
          obtain rfl := Option.some.inj hb
          cases e2
        · omega
theorem cc_of (R : RdW N σ z) {x : XrZ} {l : List ItZ} (hx : (.inl x :: l) <:+ z.2.1) : ccZ (sI σ 68 1) l.length x := by
  have r : itR id σ l.length (.inl x) := IcR.at R.1.1.1 (itN_at hx)
  exact r
/-- STORES -/
theorem stx_of (R : RdW N σ z) (I : IvI z) {ms : MfT} {x : XrZ} {l : List ItZ} (hx : (.inl x :: l) <:+ z.2.1) (k : x.1.1 = 15) : StxR (sI σ 68 1) (CxM N z.1 ms) l x := by
  obtain ⟨c1, c2⟩ := I.2.2.1 x (hx.subset List.mem_cons_self) k
  have v := R.vt (Nv := N) (ms := ms) (Y := sI σ 68 1) JfR.rf c1 c2
  exact ⟨cc_of R hx, k, v.1, v.2.1, v.2.2.1, v.2.2.2.1, v.2.2.2.2⟩
theorem t0_co {C : CxT} {L : List ItZ} {x : XrZ} {l : List ItZ} (hx : (.inl x :: l) <:+ L) (k : ¬ (x.1.1 = 0 ∨ x.1.1 = 1)) : ((t0T C.1 (xgZ L)).1 (xcZ l)).2.1 = 0 := by
  show coX (xgZ L (xcZ l)) = 0
  rw [xg_at hx]
  exact if_neg k
end
