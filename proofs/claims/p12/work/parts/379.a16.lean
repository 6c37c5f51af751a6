/-! one exp more, where none is told -/
theorem lie_69 {σ : RS} {c ty su : Int32} {v : Int64} : gI (lieS σ c ty su v) 69 = gI σ 69 + 1 := rfl
theorem lie_74 {σ : RS} {c ty su : Int32} {v : Int64} : gI (lieS σ c ty su v) 74 = gI σ 74 + 1 := rfl
/-- what stands of it in the text -/
def XtxR (σ0 : RS) (C : CxT) (T0 : TbT) (l : List ItZ) (x : XrZ) : Prop :=
  ccZ σ0 l.length x ∧ (0 ≤ x.1.1 ∧ x.1.1 ≤ 14) ∧ (x.1.1 ≤ 1 → ∀ (σ : RS) (c : Int32), JfR σ0 σ → c.toInt = (l.length : Int) → (((aI σ 3 (aI σ 22 c.toNatClampNeg).toNatClampNeg = 2 ∧ (aI σ 11 (aI σ 22 c.toNatClampNeg).toNatClampNeg = 2 ∨ (aI σ 11 (aI σ 22 c.toNatClampNeg).toNatClampNeg = 1 ∧ aI σ 21 c.toNatClampNeg = 0))) ↔ exT C T0 (xcZ l) x = none) ∧ ∀ e, exT C T0 (xcZ l) x = some e → (aI σ 20 c.toNatClampNeg).toInt = e.1 ∧ ¬ e.2.1 = 0 ∧ e.2.2.1 = (if aI σ 3 (aI σ 22 c.toNatClampNeg).toNatClampNeg = 4 then (if aI σ 6 (aI σ 22 c.toNatClampNeg).toNatClampNeg = 22 then 1 else 0) else if aI σ 20 c.toNatClampNeg = 3 then (aL σ 9 (aI σ 22 c.toNatClampNeg).toNatClampNeg).toInt32.toInt64 else aL σ 9 (aI σ 22 c.toNatClampNeg).toNatClampNeg))) ∧
  ((x.1.1 = 2 ∨ x.1.1 = 6 ∨ x.1.1 = 9) → ∀ (σ : RS) (c : Int32), JfR σ0 σ → c.toInt = (l.length : Int) → (gI σ 89).toInt = (mdZ l : Int) → 0 ≤ (gI σ 42).toInt ∧ (∀ r, FdR σ (aI σ 22 c.toNatClampNeg) r → r = x.2.1.2.1 ∨ (r < 0 ∧ x.2.1.2.1 < 0)) ∧ (0 ≤ x.2.1.2.1 → knT C x.2.1.2.1) ∧ (knT C x.2.1.2.1 → (aI σ 44 x.2.1.2.1.toNat).toInt = (vtT C x.2.1.2.1).1 ∧ (¬ aI σ 45 x.2.1.2.1.toNat = 0 ↔ ¬ (vtT C x.2.1.2.1).2 = 0) ∧ 0 ≤ (vtT C x.2.1.2.1).1 ∧ (vtT C x.2.1.2.1).1 ≤ 4)) ∧
  ((x.1.1 = 2 ∨ x.1.1 = 6 ∨ x.1.1 = 9 ∨ x.1.1 = 10) → (T0.1 (xcZ l)).2.1 = 0) ∧ (x.1.1 = 1 → VaT (T0.1 (xcZ l))) ∧
  (x.1.1 = 10 → (∀ (σ : RS) (c : Int32), JfR σ0 σ → c.toInt = (l.length : Int) → MsR σ (aI σ 22 c.toNatClampNeg) (C.1 x.1.2.2.1) C.2.2.2) ∧ NdT C.2.2.2) ∧
  ((x.1.1 = 4 → x.1.2.1 = 34 ∨ x.1.2.1 = 35 ∨ x.1.2.1 = 39 ∨ x.1.2.1 = 40) ∧ (x.1.1 = 5 → 0 ≤ x.2.1.2.2 ∧ x.2.1.2.2 ≤ 4) ∧ (x.1.1 = 7 → 20 ≤ x.1.2.1 ∧ x.1.2.1 ≤ 38) ∧ (x.1.1 = 9 → x.1.2.1 = 8 ∨ (22 ≤ x.1.2.1 ∧ x.1.2.1 ≤ 38 ∧ (x.1.2.1 ≤ 24 ∨ 31 ≤ x.1.2.1)))) ∧
  (x.1.1 ≤ 10 → 0 ≤ x.2.1.1)
theorem okl_t {C : CxT} {N : Int → Int} {T0 : TbT} : ∀ {l : List ItZ} {T : TbT}, OkL C N T0 l T → ∀ q, xcZ l ≤ q → T.1 q = T0.1 q := by
  intro l
  induction l with
  | nil => intro T h q _; rw [h]
  | cons x l ih =>
    intro T h q hq
    cases x with
    | inl x =>
      obtain ⟨U, a, b⟩ := h
      have hq : xcZ l + 1 ≤ q := hq
      rw [← ih a q (by omega)]
      unfold stT at b
      cases e : exT C U (xcZ l) x with
      | none => rw [e] at b; cases b
      | some r => rw [e] at b; cases b; exact if_neg (by omega)
    | inr y => exact ih h.1 q hq
theorem ex_lit {C : CxT} {T T0 : TbT} {i : Nat} {x : XrZ} (h : x.1.1 ≤ 1) (h0 : 0 ≤ x.1.1) (e : T.1 i = T0.1 i) : exT C T i x = exT C T0 i x := by
  by_cases k : x.1.1 = 0
  · rw [ex_0 k, ex_0 k, e]
  · rw [ex_d (by omega), ex_d (by omega), e]
theorem sk_stp {L l : List ItZ} {x : ItZ} {S : List Int} (h : SkP L []) (hs : (x :: l) <:+ L) (g : SkP l S) : ∃ U, S = iopZ x ++ U ∧ SkP (x :: l) (ipuZ (xcZ l) x ++ U) := by
  obtain ⟨V, hV⟩ := sk_sf h hs
  have hV' := hV
  obtain ⟨U, u1, u2⟩ := hV
  exact ⟨U, sk_un g u2, by rw [u1] at hV'; exact hV'⟩
theorem g69 {v k : Int32} {n m : Nat} (h : v.toInt = (n : Int)) (g : k.toInt = (m : Int)) (hm : m ≤ n) : (v - k).toNatClampNeg = n - m ∧ (v - k).toInt = ((n - m : Nat) : Int) := by
  have b := v.toInt_lt
  have e : (v - k).toInt = (n : Int) - (m : Int) := by
    rw [Int32.toInt_sub, h, g]
    exact Int.bmod_eq_of_le (by omega) (by omega)
  exact ⟨nT_x (by omega), by omega⟩
theorem g69p {v k : Int32} {n m : Nat} (h : v.toInt = (n : Int)) (g : k.toInt = (m : Int)) (hb : (n : Int) + m < 2147483648) : (v + k).toNatClampNeg = n + m ∧ (v + k).toInt = ((n + m : Nat) : Int) := by
  have e : (v + k).toInt = (n : Int) + (m : Int) := by
    rw [Int32.toInt_add, h, g]
    exact Int.bmod_eq_of_le (by omega) (by omega)
  exact ⟨nT_x (by omega), by omega⟩
theorem TeR.ix {σ : RS} {i j : Nat} {e : TvT} (h : TeR σ i e) (q : j = i) : TeR σ j e := by rw [q]; exact h
theorem ex_pre {b kd : Nat → Int} {σ0 σ : RS} {C : CxT} {tn : Nat} {l : List ItZ} {T T0 : TbT} {S U : List Int} {N : Int → Int} {x : XrZ} {c : Int32} (hJ : JR b kd σ0 σ C tn l T S) (hO : OkL C N T0 l T) (hS : S = opsZ x ++ U) (hc : c.toInt = (l.length : Int)) (hX : XtxR σ0 C T0 l x) : XpR σ c C T (xcZ l) x := by
  obtain ⟨⟨hf, h66, hk⟩, ⟨hs1, hs2⟩, _, hv, _, _, h89, _⟩ := hJ
  obtain ⟨x1, x2, x3, x4, x5, x5b, x6, x7, x8⟩ := hX
  have hn : c.toNatClampNeg = l.length := nT_x hc
  have cc : ccZ σ c.toNatClampNeg x := by
    rw [hn]
    exact ccZ.fr (fun k h1 h2 => by rw [hf.2.2.1 k (by unfold bJ; have e : k = 19 ∨ k = 20 ∨ k = 21 ∨ k = 22 ∨ k = 23 ∨ k = 24 := (by omega); rcases e with e | e | e | e | e | e <;> rw [e] <;> rfl)]) x1
  have te : T.1 (xcZ l) = T0.1 (xcZ l) := okl_t hO _ (Nat.le_refl _)
  have t1 : ∀ {q : Int} {V : List Int}, S = q :: V → TeR σ (gI σ 69 - 1).toNatClampNeg (opT T q) := fun {q V} e => by
    have a := hs2 0 q (by rw [e]; rfl)
    have b := (g69 (k := 1) (m := 1) hs1 rfl (by rw [e, List.length_cons]; omega)).1
    exact a.ix (by omega)
  have t2 : ∀ {q r : Int} {V : List Int}, S = q :: r :: V → TeR σ (gI σ 69 - 2).toNatClampNeg (opT T r) ∧ TeR σ (gI σ 69 - 2 + 1).toNatClampNeg (opT T q) := fun {q r V} e => by
    have a := hs2 0 q (by rw [e]; rfl)
    have a2 := hs2 1 r (by rw [e]; rfl)
    have ln : 2 ≤ S.length := by rw [e, List.length_cons, List.length_cons]; omega
    have b := g69 (k := 2) (m := 2) hs1 rfl ln
    have d := (g69p (k := 1) (m := 1) b.2 rfl (by have := (gI σ 69).toInt_lt; omega)).1
    exact ⟨a2.ix (by omega), a.ix (by omega)⟩
  have t3 : ∀ {q r s : Int} {V : List Int}, S = q :: r :: s :: V → TeR σ (gI σ 69 - 3).toNatClampNeg (opT T s) ∧ TeR σ (gI σ 69 - 3 + 1).toNatClampNeg (opT T r) ∧ TeR σ (gI σ 69 - 3 + 2).toNatClampNeg (opT T q) := fun {q r s V} e => by
    have a := hs2 0 q (by rw [e]; rfl)
    have a2 := hs2 1 r (by rw [e]; rfl)
    have a3 := hs2 2 s (by rw [e]; rfl)
    have ln : 3 ≤ S.length := by rw [e, List.length_cons, List.length_cons, List.length_cons]; omega
    have b := g69 (k := 3) (m := 3) hs1 rfl ln
    have d := (g69p (k := 1) (m := 1) b.2 rfl (by have := (gI σ 69).toInt_lt; omega)).1
    have d2 := (g69p (k := 2) (m := 2) b.2 rfl (by have := (gI σ 69).toInt_lt; omega)).1
    exact ⟨a3.ix (by omega), a2.ix (by omega), a.ix (by omega)⟩
  have o1 : x.1.1 = 3 ∨ x.1.1 = 4 ∨ x.1.1 = 5 → opsZ x = [x.2.2.1.2.1] := fun q => by unfold opsZ; rw [if_pos (by omega)]
  have o7 : x.1.1 = 7 → opsZ x = [x.2.2.1.2.2.1, x.2.2.1.2.1] := fun q => by unfold opsZ; rw [if_neg (by omega), if_pos q]
  have o8 : x.1.1 = 8 → opsZ x = [x.2.2.1.2.2.2.1, x.2.2.1.2.2.1, x.2.2.1.2.1] := fun q => by unfold opsZ; rw [if_neg (by omega), if_neg (by omega), if_pos q]
  have o9 : x.1.1 = 9 → opsZ x = [x.2.2.1.2.2.1] := fun q => by unfold opsZ; rw [if_neg (by omega), if_neg (by omega), if_neg (by omega), if_pos q]
  have o10 : x.1.1 = 10 → opsZ x = x.2.2.2.reverse := fun q => by unfold opsZ; rw [if_neg (by omega), if_neg (by omega), if_neg (by omega), if_neg (by omega), if_pos q]
  refine ⟨cc, x2, fun q => ?_, fun q => x4 q σ c hf hc h89, fun _ kn => ?_, fun q => by rw [te]; exact x5 q, fun q => t1 (by rw [hS, o1 q]; rfl), fun q => t1 (by rw [hS, o9 q]; rfl), fun q => t2 (by rw [hS, o7 q]; rfl), fun q => t3 (by rw [hS, o8 q]; rfl), fun q => ?_, x7⟩
  · rw [ex_lit q x2.1 te]
    exact x3 q σ c hf hc
  · have z := hv x.2.1.2.1.toNat (by omega)
    exact z
  · obtain ⟨a1, a2⟩ := x6 q
    have hl : (aI σ 20 c.toNatClampNeg).toInt = (x.2.2.2.length : Int) := cc.2.2.2.2.2.2.2.1 q
    have ag : (agT T x.2.2.2).length = x.2.2.2.length := by unfold agT; rw [List.length_map]
    have ln : S.length = x.2.2.2.length + U.length := by rw [hS, o10 q, List.length_append, List.length_reverse]
    have b := g69 (k := aI σ 20 c.toNatClampNeg) (m := x.2.2.2.length) hs1 hl (by omega)
    have el : ∀ i : Nat, i < x.2.2.2.length → TeR σ (U.length + i) (opT T (x.2.2.2.getD i 0)) ∧ (agT T x.2.2.2).getD i 0 = (opT T (x.2.2.2.getD i 0)).1 := fun i hi => by
      have g := hs2 (x.2.2.2.length - 1 - i) (x.2.2.2.getD i 0) (by
        rw [hS, o10 q, List.getElem?_append_left (by rw [List.length_reverse]; omega), List.getElem?_reverse (by omega), show x.2.2.2.length - 1 - (x.2.2.2.length - 1 - i) = i by omega, List.getD_eq_getElem?_getD, List.getElem?_eq_getElem hi]
        rfl)
      refine ⟨g.ix (by omega), ?_⟩
      unfold agT
      rw [List.getD_eq_getElem?_getD, List.getD_eq_getElem?_getD, List.getElem?_map, List.getElem?_eq_getElem hi]
      rfl
    refine ⟨⟨by rw [ag]; exact hl, fun i i0 i1 => ?_⟩, fun r hr => ?_, a1 σ c hf hc, a2⟩
    · rw [ag] at i1
      have g := el i.toInt.toNat (by omega)
      have d := (g69p (v := gI σ 69 - aI σ 20 c.toNatClampNeg) (k := i) (m := i.toInt.toNat) b.2 (by omega) (by have := (gI σ 69).toInt_lt; omega)).1
      rw [g.2, ← g.1.1, d]
      congr 2
      omega
    · obtain ⟨j, hj, rfl⟩ := List.mem_iff_getElem.mp hr
      have g := el j (by omega)
      have z : (agT T x.2.2.2).getD j 0 = (agT T x.2.2.2)[j] := by rw [List.getD_eq_getElem?_getD, List.getElem?_eq_getElem hj]; rfl
      rw [← z, g.2]
      exact g.1.2.2.2.1
