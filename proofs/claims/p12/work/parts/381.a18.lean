/-! one code of an S more, where none is told -/
theorem JR.inr {b kd : Nat → Int} {σ0 σ τ : RS} {C : CxT} {tn : Nat} {l : List ItZ} {T : TbT} {S U : List Int} {y : Int × Int × Int × Int × Int} (hJ : JR b kd σ0 σ C tn l T S) (hS : S = iopZ (.inr y) ++ U) (hU : SkP (.inr y :: l) U) (f : JfR σ0 τ) (e66 : gI τ 66 = 0) (h69 : (gI τ 69).toInt = (U.length : Int))
    (e70 : aI τ 70 = aI σ 70 ∧ aI τ 71 = aI σ 71 ∧ aL τ 72 = aL σ 72) (e74 : gI τ 74 = gI σ 74) (e75 : aI τ 75 = aI σ 75 ∧ aI τ 76 = aI σ 76 ∧ aI τ 77 = aI σ 77 ∧ aI τ 78 = aI σ 78 ∧ aL τ 79 = aL σ 79) (e81 : aI τ 81 = aI σ 81 ∧ aI τ 83 = aI σ 83) (e82 : ∀ d, d < l.length → aI τ 82 d = aI σ 82 d ∧ aI τ 84 d = aI σ 84 d ∧ aL τ 85 d = aL σ 85 d)
    (htk : tkO y → 0 ≤ y.2.2.2.2) (hke : keR τ T l.length y) (e86 : aI τ 86 = aI σ 86 ∧ aL τ 87 = aL σ 87) (hh : JhR τ T tn (.inr y :: l)) (hl : JlR τ (.inr y :: l)) (h89 : (gI τ 89).toInt = (mdZ (.inr y :: l) : Int)) (hn : JnR b kd τ T (.inr y :: l)) : JR b kd σ0 τ C tn (.inr y :: l) T U := by
  obtain ⟨⟨_, _, hk⟩, ⟨hs1, hs2⟩, ⟨h74, ht⟩, hv, _, _, _, _⟩ := hJ
  have rg := sk_rg hk
  refine ⟨⟨f, e66, hU⟩, ⟨h69, fun i q hq => ?_⟩, ⟨by rw [e74]; exact h74, ⟨fun z => ⟨htk z, ?_⟩, hke⟩, ht.fr (fun _ _ => rfl) (fun p _ => ⟨by rw [e75.1], by rw [e75.2.1], by rw [e75.2.2.1], by rw [e75.2.2.2.1], by rw [e75.2.2.2.2]⟩) (fun d hd => ⟨by rw [e81.1], (e82 d hd).1, by rw [e81.2], (e82 d hd).2.1, (e82 d hd).2.2⟩)⟩, hv.t e86.1 e86.2 rfl, hh, hl, h89, hn⟩
  · have il : i < U.length := (List.getElem?_eq_some_iff.mp hq).1
    have z := hs2 ((iopZ (.inr y)).length + i) q (by rw [hS, List.getElem?_append_right (by omega), show (iopZ (.inr y)).length + i - (iopZ (.inr y)).length = i by omega]; exact hq)
    have sl : S.length = (iopZ (.inr y)).length + U.length := by rw [hS, List.length_append]
    rw [show S.length - 1 - ((iopZ (.inr y)).length + i) = U.length - 1 - i by omega] at z
    unfold TeR at *
    rw [e70.1, e70.2.1, e70.2.2]
    exact z
  · have e0 := htk z
    have m : y.2.2.2.2 ∈ S := by
      rw [hS]
      refine List.mem_append_left _ ?_
      show y.2.2.2.2 ∈ (if y.2.2.2.2 < 0 then [] else [y.2.2.2.2])
      rw [if_neg (by omega)]
      exact List.mem_cons_self
    exact (rg _ m).2
/-- what stands of it in the text -/
def YtxR (kd : Nat → Int) (σ0 : RS) (C : CxT) (N : Int → Int) (tn : Nat) (l : List ItZ) (y : Int × Int × Int × Int × Int) : Prop :=
  (IcR id σ0 (.inr y :: l) ∧ 19 ≤ y.1) ∧ (y.1 = 22 → (y.2.2.1 = 0 ∨ y.2.2.1 = 2) ∧ 0 ≤ (aI σ0 44 y.2.1.toNat).toInt ∧ (aI σ0 44 y.2.1.toNat).toInt ≤ 4 ∧ 0 ≤ y.2.1) ∧ ((tkO y → 0 ≤ y.2.2.2.2) ∧ (¬ tkO y → y.2.2.2.2 < 0)) ∧
  (y.1 = 37 ∨ y.1 = 38 ∨ y.1 = 39 → 0 ≤ y.2.1 ∧ y.2.1 < (tn : Int)) ∧ (y.1 = 38 → 0 ≤ swZ y.2.1 l ∧ (0 ≤ (aI σ0 51 y.2.1.toNat).toInt ∧ (aI σ0 51 y.2.1.toNat).toInt ≤ (l.length : Int)) ∧ ∀ o x, itN l o = some (.inr x) → x.1 = 38 → x.2.1 = y.2.1 → (aI σ0 51 y.2.1.toNat).toInt ≤ (o : Int)) ∧
  (y.1 = 41 → ∀ p ∈ lbZ l, 0 ≤ p.1 ∧ (sameR σ0 (aI σ0 60 p.1.toNat).toNatClampNeg y.2.2.2.1.toNat ↔ N p.2 = N y.2.2.2.1)) ∧ (y.1 = 42 → lbZ l ≠ []) ∧ (y.1 = 41 ∨ y.1 = 46 ∨ y.1 = 47 → 0 ≤ y.2.2.2.1) ∧
  (y.1 = 48 → ∀ σ : RS, JfR σ0 σ → (gI σ 89).toInt = (mdZ l : Int) → (if gI σ 89 = 10 then (5 : Int32) else if gI σ 89 = 11 then 3 else aI σ 38 (gI σ 89).toNatClampNeg).toInt = mtyT C (mdZ l)) ∧ (∀ t : Nat, kd t = (aI σ0 3 t).toInt)
theorem i32_kk {v : Int32} {X : Int} {k : Int32} {K : Int} (h : v.toInt = X) (g : k.toInt = K) : v = k ↔ X = K := by
  rw [← h, ← g]
  exact Int32.toInt_inj.symm
theorem bj_n {k : Nat} (h : k < 59 ∨ (60 ≤ k ∧ k < 70) ∨ k = 72 ∨ k = 74 ∨ k = 79 ∨ k = 85 ∨ k = 87 ∨ k = 89 ∨ 91 ≤ k) : bJ k = false := by
  unfold bJ
  have e : ∀ a b : Nat, Nat.ble a b = decide (a ≤ b) := fun a b => by
    by_cases q : a ≤ b
    · rw [decide_eq_true q]; exact Nat.ble_eq.mpr q
    · rw [decide_eq_false q]; exact Bool.eq_false_iff.mpr (fun z => q (Nat.ble_eq.mp z))
  simp only [e, Bool.or_eq_false_iff, Bool.and_eq_false_iff, beq_eq_false_iff_ne, decide_eq_false_iff_not, ne_eq]
  omega
