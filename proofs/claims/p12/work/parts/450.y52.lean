/-! the reference's flow: what each code of an S does to what is looked at -/
section
variable {σ τ : RS} {k j : Nat} {v : Int32} {b : Int64} {g : Nat → Int32} {G : Nat → Int64}
theorem FqT.I (hj : flI j = true) (h : FqT k σ τ) : FqT k σ (sI τ j v) := ⟨FfR.I hj h.1, h.2⟩
theorem FqT.L (hj : flL j = true) (h : FqT k σ τ) : FqT k σ (sL τ j b) := ⟨FfR.L hj h.1, h.2⟩
theorem FqT.be (h : FqT k σ τ) : FqT k σ (beS τ b) := FqT.L rfl (FqT.L rfl h)
theorem FqT.a95 (hg : ∀ i, ¬ i = k → g i = aI σ 95 i) (h : FqT k σ τ) : FqT k σ (sA τ 95 g) := ⟨FfR.A rfl h.1, fun i q => ⟨hg i q, (h.2.1 i q).2⟩, h.2.2⟩
theorem FqT.a97 (hg : ∀ i, ¬ i = k → g i = aI σ 97 i) (h : FqT k σ τ) : FqT k σ (sA τ 97 g) := ⟨FfR.A rfl h.1, fun i q => ⟨(h.2.1 i q).1, (h.2.1 i q).2.1, hg i q, (h.2.1 i q).2.2.2⟩, h.2.2⟩
theorem FqT.m96 (hg : ∀ i, ¬ i = k → G i = aL σ 96 i) (h : FqT k σ τ) : FqT k σ (sM τ 96 G) := ⟨FfR.M rfl h.1, fun i q => ⟨(h.2.1 i q).1, hg i q, (h.2.1 i q).2.2⟩, h.2.2⟩
theorem FqT.m98 (hg : ∀ i, ¬ i = k → G i = aL σ 98 i) (h : FqT k σ τ) : FqT k σ (sM τ 98 G) := ⟨FfR.M rfl h.1, fun i q => ⟨(h.2.1 i q).1, (h.2.1 i q).2.1, (h.2.1 i q).2.2.1, hg i q, (h.2.1 i q).2.2.2.2⟩, h.2.2⟩
theorem FqT.m99 (hg : ∀ i, ¬ i = k → G i = aL σ 99 i) (h : FqT k σ τ) : FqT k σ (sM τ 99 G) := ⟨FfR.M rfl h.1, fun i q => ⟨(h.2.1 i q).1, (h.2.1 i q).2.1, (h.2.1 i q).2.2.1, (h.2.1 i q).2.2.2.1, hg i q⟩, h.2.2⟩
theorem FqT.a104 (h : FqT k σ τ) : FqT k σ (sA τ 104 g) := ⟨FfR.A rfl h.1, h.2⟩
theorem FqT.a105 (h : FqT k σ τ) : FqT k σ (sA τ 105 g) := ⟨FfR.A rfl h.1, h.2⟩
theorem FqT.a106 (h : FqT k σ τ) : FqT k σ (sA τ 106 g) := ⟨FfR.A rfl h.1, h.2⟩
theorem FqT.a107 (h : FqT k σ τ) : FqT k σ (sA τ 107 g) := ⟨FfR.A rfl h.1, h.2⟩
theorem FqT.m108 (h : FqT k σ τ) : FqT k σ (sM τ 108 G) := ⟨FfR.M rfl h.1, h.2⟩
theorem FqT.co {K on : Int32} {n : Nat} (h : FqT k σ τ) : FqT k σ (coS τ K on n) := FqT.a104 (FqT.I rfl h)
theorem FqT.en {K : Int32} {n : Nat} (h : FqT k σ τ) : FqT k σ (enS τ K n) := FqT.m108 (FqT.a107 h)
theorem up_k {f : Nat → Int32} : ∀ i, ¬ i = k → upd f k v i = f i := fun _ q => upd_ne q
theorem vp_k {f : Nat → Int64} : ∀ i, ¬ i = k → vp_updL f k b i = f i := fun _ q => if_neg q
end
section
variable {σ : RS} {A : Prop} {t f : Int64} {k : Nat} {c : Int32}
theorem fw_21 (h : Bw σ A t f) : Bw (fs_21 σ c).1 A (t &&& f) (t &&& f) ∧ FqT k σ (fs_21 σ c).1 ∧ Jq σ (fs_21 σ c).1 := by
  unfold fs_21
  rw [h.now]
  exact ⟨⟨⟨h.1.1, rfl, rfl⟩, h.2⟩, FqT.rf.be, Jq.rf⟩
theorem fw_22 (h : Bw σ A t f) (e : ¬ aI σ 21 c.toNatClampNeg = 1) : Bw (fs_22 σ c).1 A ((t &&& f) &&& ((1 <<< ((aI σ 20 c.toNatClampNeg).toInt64 &&& 63)) ^^^ allB)) ((t &&& f) &&& ((1 <<< ((aI σ 20 c.toNatClampNeg).toInt64 &&& 63)) ^^^ allB)) ∧ FqT k σ (fs_22 σ c).1 ∧ Jq σ (fs_22 σ c).1 := by
  unfold fs_22
  rw [if_neg e, h.now]
  exact ⟨⟨⟨h.1.1, rfl, rfl⟩, h.2⟩, FqT.rf.be, Jq.rf⟩
theorem fw_22s (h : Bw σ A t f) (e : aI σ 21 c.toNatClampNeg = 1) : Bw (fs_22 σ c).1 A ((t &&& f) ||| (1 <<< ((aI σ 20 c.toNatClampNeg).toInt64 &&& 63))) ((t &&& f) ||| (1 <<< ((aI σ 20 c.toNatClampNeg).toInt64 &&& 63))) ∧ FqT k σ (fs_22 σ c).1 ∧ Jq σ (fs_22 σ c).1 := by
  unfold fs_22
  rw [if_pos e, h.now]
  exact ⟨⟨⟨h.1.1, rfl, rfl⟩, h.2⟩, FqT.rf.be, Jq.rf⟩
theorem fw_48 (h : Bw σ A t f) : Bw (fs_48 σ c).1 False allB allB ∧ FqT k σ (fs_48 σ c).1 ∧ Jq σ (fs_48 σ c).1 := ⟨⟨⟨⟨fun q => q rfl, fun q => absurd q id⟩, rfl, rfl⟩, h.2⟩, (FqT.rf.I rfl).be, Jq.rf⟩
theorem fw_49 (h : Bw σ A t f) : Bw (fs_49 σ c).1 False allB allB ∧ FqT k σ (fs_49 σ c).1 ∧ Jq σ (fs_49 σ c).1 := ⟨⟨⟨⟨fun q => q rfl, fun q => absurd q id⟩, rfl, rfl⟩, h.2⟩, (FqT.rf.I rfl).be, Jq.rf⟩
theorem fw_23 (hk : (aI σ 20 c.toNatClampNeg).toNatClampNeg = k) (h : Bw σ A t f) : Bw (fs_23 σ c).1 True t t ∧ FqT k σ (fs_23 σ c).1 ∧ Jq σ (fs_23 σ c).1 ∧ aL (fs_23 σ c).1 98 k = f := by
  unfold fs_23
  rw [hk]
  exact ⟨⟨⟨⟨fun _ => trivial, fun _ => by show ¬ (1 : Int32) = 0; decide⟩, h.1.2.1, h.1.2.1⟩, h.2⟩, ((FqT.rf.m98 vp_k).be).I rfl, Jq.rf, (if_pos rfl).trans h.1.2.2⟩
theorem fw_24 (hk : (aI σ 20 c.toNatClampNeg).toNatClampNeg = k) (h : Bw σ A t f) : Bw (fs_24 σ c).1 True (aL σ 98 k) (aL σ 98 k) ∧ FqT k σ (fs_24 σ c).1 ∧ Jq σ (fs_24 σ c).1 ∧ aL (fs_24 σ c).1 96 k = t &&& f ∧ (¬ aI (fs_24 σ c).1 95 k = 0 ↔ A) := by
  unfold fs_24
  rw [hk]
  refine ⟨⟨⟨⟨fun _ => trivial, fun _ => by show ¬ (1 : Int32) = 0; decide⟩, rfl, rfl⟩, h.2⟩, (((FqT.rf.a95 up_k).m96 vp_k).be).I rfl, Jq.rf, (if_pos rfl).trans h.now, ?_⟩
  have e : aI (sI (beS (sM (sA σ 95 (upd (aI σ 95) k (gI σ 92))) 96 (vp_updL (aL σ 96) k (nowR (sA σ 95 (upd (aI σ 95) k (gI σ 92)))))) (aL σ 98 k)) 92 1) 95 k = gI σ 92 := upd_eq
  rw [e]
  exact h.1.1
theorem fw_25a (hk : (aI σ 20 c.toNatClampNeg).toNatClampNeg = k) (h : Bw σ A t f) (e : aI σ 56 k < 0) : Bw (fs_25 σ c).1 True ((t &&& f) &&& aL σ 98 k) ((t &&& f) &&& aL σ 98 k) ∧ FqT k σ (fs_25 σ c).1 ∧ Jq σ (fs_25 σ c).1 := by
  unfold fs_25
  rw [hk, if_pos e, h.now]
  exact ⟨⟨⟨⟨fun _ => trivial, fun _ => by show ¬ (1 : Int32) = 0; decide⟩, rfl, rfl⟩, h.2⟩, (FqT.rf.be).I rfl, Jq.rf⟩
theorem fw_25b (hk : (aI σ 20 c.toNatClampNeg).toNatClampNeg = k) (h : Bw σ A t f) (e : ¬ aI σ 56 k < 0) : Bw (fs_25 σ c).1 (A ∨ ¬ aI σ 95 k = 0) ((t &&& f) &&& aL σ 96 k) ((t &&& f) &&& aL σ 96 k) ∧ FqT k σ (fs_25 σ c).1 ∧ Jq σ (fs_25 σ c).1 := by
  unfold fs_25
  rw [hk, if_neg e, h.now]
  split
  · rename_i a
    split
    · rename_i b
      exact ⟨⟨⟨iff_of_false (fun q => q rfl) (fun q => q.elim (fun x => (h.1.1.mpr x) a) (fun x => x b)), rfl, rfl⟩, h.2⟩, (FqT.rf.be).I rfl, Jq.rf⟩
    · rename_i b
      exact ⟨⟨⟨iff_of_true (by show ¬ (1 : Int32) = 0; decide) (Or.inr b), rfl, rfl⟩, h.2⟩, (FqT.rf.be).I rfl, Jq.rf⟩
  · rename_i a
    exact ⟨⟨⟨iff_of_true (by show ¬ (1 : Int32) = 0; decide) (Or.inl (h.1.1.mp a)), rfl, rfl⟩, h.2⟩, (FqT.rf.be).I rfl, Jq.rf⟩
theorem fw_27 (hk : (aI σ 20 c.toNatClampNeg).toNatClampNeg = k) (h : Bw σ A t f) : Bw (fs_27 σ c).1 (neR σ c = 0) t t ∧ FqT k σ (fs_27 σ c).1 ∧ Jq σ (fs_27 σ c).1 ∧ aL (fs_27 σ c).1 98 k = f ∧ aI (fs_27 σ c).1 97 k = alR σ c := by
  unfold fs_27
  rw [hk]
  split
  · rename_i a
    exact ⟨⟨⟨iff_of_true (by show ¬ (1 : Int32) = 0; decide) a, h.1.2.1, h.1.2.1⟩, h.2⟩, (((FqT.rf.m98 vp_k).a97 up_k).be).I rfl, Jq.rf, (if_pos rfl).trans h.1.2.2, upd_eq⟩
  · rename_i a
    exact ⟨⟨⟨iff_of_false (fun q => q rfl) a, h.1.2.1, h.1.2.1⟩, h.2⟩, (((FqT.rf.m98 vp_k).a97 up_k).be).I rfl, Jq.rf, (if_pos rfl).trans h.1.2.2, upd_eq⟩
/-- a loop's end: while -/
theorem fw_28 (hk : (aI σ 20 c.toNatClampNeg).toNatClampNeg = k) (h : Bw σ A t f) : ∃ τ1 τ2 : RS, τ1 = coS σ (aI σ 20 c.toNatClampNeg) 1 (gI σ 103).toInt.toNat ∧ τ2 = coS τ1 (aI σ 20 c.toNatClampNeg) 0 (gI τ1 103).toInt.toNat ∧ Bw (fs_28 σ c).1 (aI σ 97 k = 0 ∨ ¬ (coF τ1 (aI σ 20 c.toNatClampNeg) 0 (gI τ1 103).toInt.toNat).2.1 = 0) (aL σ 98 k &&& (coF τ1 (aI σ 20 c.toNatClampNeg) 0 (gI τ1 103).toInt.toNat).1) (aL σ 98 k &&& (coF τ1 (aI σ 20 c.toNatClampNeg) 0 (gI τ1 103).toInt.toNat).1) ∧ FqT k σ (fs_28 σ c).1 ∧ Jq τ2 (fs_28 σ c).1 := by
  refine ⟨_, _, rfl, rfl, ?_⟩
  unfold fs_28
  rw [hk]
  split
  · rename_i a
    exact ⟨⟨⟨iff_of_true (by show ¬ (1 : Int32) = 0; decide) (Or.inl a), rfl, rfl⟩, h.2⟩, ((FqT.rf.co.co).be).I rfl, Jq.rf⟩
  · rename_i a
    split
    · rename_i b
      exact ⟨⟨⟨iff_of_false (fun q => q rfl) (fun q => q.elim a (fun x => x b)), rfl, rfl⟩, h.2⟩, ((FqT.rf.co.co).be).I rfl, Jq.rf⟩
    · rename_i b
      exact ⟨⟨⟨iff_of_true (by show ¬ (1 : Int32) = 0; decide) (Or.inr b), rfl, rfl⟩, h.2⟩, ((FqT.rf.co.co).be).I rfl, Jq.rf⟩
theorem fw_30 (hk : (aI σ 20 c.toNatClampNeg).toNatClampNeg = k) (h : Bw σ A t f) : ∃ τ1 : RS, τ1 = coS σ (aI σ 20 c.toNatClampNeg) 1 (gI σ 103).toInt.toNat ∧ Bw (fs_30 σ c).1 A ((t &&& f) &&& (coF σ (aI σ 20 c.toNatClampNeg) 1 (gI σ 103).toInt.toNat).1) ((t &&& f) &&& (coF σ (aI σ 20 c.toNatClampNeg) 1 (gI σ 103).toInt.toNat).1) ∧ FqT k σ (fs_30 σ c).1 ∧ Jq τ1 (fs_30 σ c).1 ∧ (¬ aI (fs_30 σ c).1 95 k = 0 ↔ (A ∨ ¬ (coF σ (aI σ 20 c.toNatClampNeg) 1 (gI σ 103).toInt.toNat).2.1 = 0)) := by
  refine ⟨_, rfl, ?_⟩
  unfold fs_30
  rw [hk, h.now]
  split
  · rename_i a
    split
    · rename_i b
      exact ⟨⟨⟨h.1.1, rfl, rfl⟩, h.2⟩, (FqT.rf.co.be).a95 up_k, Jq.rf, iff_of_false (fun q => q upd_eq) (fun q => q.elim (fun x => (h.1.1.mpr x) a) (fun x => x b))⟩
    · rename_i b
      refine ⟨⟨⟨h.1.1, rfl, rfl⟩, h.2⟩, (FqT.rf.co.be).a95 up_k, Jq.rf, iff_of_true (fun q => ?_) (Or.inr b)⟩
      exact absurd ((upd_eq (f := aI σ 95) (k := k) (x := (1 : Int32))).symm.trans q) (by decide)
  · rename_i a
    refine ⟨⟨⟨h.1.1, rfl, rfl⟩, h.2⟩, (FqT.rf.co.be).a95 up_k, Jq.rf, iff_of_true (fun q => ?_) (Or.inl (h.1.1.mp a))⟩
    exact absurd ((upd_eq (f := aI σ 95) (k := k) (x := (1 : Int32))).symm.trans q) (by decide)
theorem fw_31 (hk : (aI σ 20 c.toNatClampNeg).toNatClampNeg = k) (h : Bw σ A t f) : ∃ τ1 : RS, τ1 = coS σ (aI σ 20 c.toNatClampNeg) 0 (gI σ 103).toInt.toNat ∧ Bw (fs_31 σ c).1 ((¬ aI σ 95 k = 0 ∧ alR σ c = 0) ∨ ¬ (coF σ (aI σ 20 c.toNatClampNeg) 0 (gI σ 103).toInt.toNat).2.1 = 0) (f &&& (coF σ (aI σ 20 c.toNatClampNeg) 0 (gI σ 103).toInt.toNat).1) (f &&& (coF σ (aI σ 20 c.toNatClampNeg) 0 (gI σ 103).toInt.toNat).1) ∧ FqT k σ (fs_31 σ c).1 ∧ Jq τ1 (fs_31 σ c).1 := by
  refine ⟨_, rfl, ?_⟩
  unfold fs_31
  rw [hk, h.1.2.2]
  split
  · rename_i a
    split
    · rename_i b
      exact ⟨⟨⟨iff_of_false (fun q => q rfl) (fun q => q.elim (fun x => x.1 a) (fun x => x b)), rfl, rfl⟩, h.2⟩, (FqT.rf.co.be).I rfl, Jq.rf⟩
    · rename_i b
      exact ⟨⟨⟨iff_of_true (by show ¬ (1 : Int32) = 0; decide) (Or.inr b), rfl, rfl⟩, h.2⟩, (FqT.rf.co.be).I rfl, Jq.rf⟩
  · rename_i a
    split
    · rename_i d
      exact ⟨⟨⟨iff_of_true (by show ¬ (1 : Int32) = 0; decide) (Or.inl ⟨a, d⟩), rfl, rfl⟩, h.2⟩, (FqT.rf.co.be).I rfl, Jq.rf⟩
    · rename_i d
      split
      · rename_i b
        exact ⟨⟨⟨iff_of_false (fun q => q rfl) (fun q => q.elim (fun x => d x.2) (fun x => x b)), rfl, rfl⟩, h.2⟩, (FqT.rf.co.be).I rfl, Jq.rf⟩
      · rename_i b
        exact ⟨⟨⟨iff_of_true (by show ¬ (1 : Int32) = 0; decide) (Or.inr b), rfl, rfl⟩, h.2⟩, (FqT.rf.co.be).I rfl, Jq.rf⟩
theorem fw_33 (hk : (aI σ 20 c.toNatClampNeg).toNatClampNeg = k) (h : Bw σ A t f) : Bw (fs_33 σ c).1 (neR σ c = 0) t t ∧ FqT k σ (fs_33 σ c).1 ∧ Jq σ (fs_33 σ c).1 ∧ aL (fs_33 σ c).1 98 k = (if aI σ 21 c.toNatClampNeg = 0 then allB else f) ∧ aI (fs_33 σ c).1 97 k = alR σ c ∧ aI (fs_33 σ c).1 95 k = 0 ∧ (fs_33 σ c).2 = aI σ 54 k := by
  unfold fs_33
  rw [hk]
  split
  · split
    · rename_i a
      exact ⟨⟨⟨iff_of_true (by show ¬ (1 : Int32) = 0; decide) a, h.1.2.1, h.1.2.1⟩, h.2⟩, (((((FqT.rf.L rfl).m98 vp_k).a97 up_k).be).I rfl).a95 up_k, Jq.rf, if_pos rfl, upd_eq, upd_eq, rfl⟩
    · rename_i a
      exact ⟨⟨⟨iff_of_false (fun q => q rfl) a, h.1.2.1, h.1.2.1⟩, h.2⟩, (((((FqT.rf.L rfl).m98 vp_k).a97 up_k).be).I rfl).a95 up_k, Jq.rf, if_pos rfl, upd_eq, upd_eq, rfl⟩
  · split
    · rename_i a
      exact ⟨⟨⟨iff_of_true (by show ¬ (1 : Int32) = 0; decide) a, h.1.2.1, h.1.2.1⟩, h.2⟩, ((((FqT.rf.m98 vp_k).a97 up_k).be).I rfl).a95 up_k, Jq.rf, (if_pos rfl).trans h.1.2.2, upd_eq, upd_eq, rfl⟩
    · rename_i a
      exact ⟨⟨⟨iff_of_false (fun q => q rfl) a, h.1.2.1, h.1.2.1⟩, h.2⟩, ((((FqT.rf.m98 vp_k).a97 up_k).be).I rfl).a95 up_k, Jq.rf, (if_pos rfl).trans h.1.2.2, upd_eq, upd_eq, rfl⟩
theorem fw_35a (hk : (aI σ 20 c.toNatClampNeg).toNatClampNeg = k) (e : aI σ 95 k = 0) : fs_35 σ c = (σ, c + 1) := by
  unfold fs_35
  rw [hk, if_pos e]
theorem fw_35b (hk : (aI σ 20 c.toNatClampNeg).toNatClampNeg = k) (h : Bw σ A t f) (e : ¬ aI σ 95 k = 0) : ∃ τ1 : RS, τ1 = coS σ (aI σ 20 c.toNatClampNeg) 0 (gI σ 103).toInt.toNat ∧ Bw (fs_35 σ c).1 (aI σ 97 k = 0 ∨ ¬ (coF σ (aI σ 20 c.toNatClampNeg) 0 (gI σ 103).toInt.toNat).2.1 = 0) (aL σ 98 k &&& (coF σ (aI σ 20 c.toNatClampNeg) 0 (gI σ 103).toInt.toNat).1) (aL σ 98 k &&& (coF σ (aI σ 20 c.toNatClampNeg) 0 (gI σ 103).toInt.toNat).1) ∧ FqT k σ (fs_35 σ c).1 ∧ Jq τ1 (fs_35 σ c).1 ∧ (fs_35 σ c).2 = aI σ 55 k + 1 := by
  refine ⟨_, rfl, ?_⟩
  unfold fs_35
  rw [hk, if_neg e]
  split
  · rename_i a
    exact ⟨⟨⟨iff_of_true (by show ¬ (1 : Int32) = 0; decide) (Or.inl a), rfl, rfl⟩, h.2⟩, (FqT.rf.co.be).I rfl, Jq.rf, rfl⟩
  · rename_i a
    split
    · rename_i b
      exact ⟨⟨⟨iff_of_false (fun q => q rfl) (fun q => q.elim a (fun x => x b)), rfl, rfl⟩, h.2⟩, (FqT.rf.co.be).I rfl, Jq.rf, rfl⟩
    · rename_i b
      exact ⟨⟨⟨iff_of_true (by show ¬ (1 : Int32) = 0; decide) (Or.inr b), rfl, rfl⟩, h.2⟩, (FqT.rf.co.be).I rfl, Jq.rf, rfl⟩
theorem fw_36 (hk : (aI σ 20 c.toNatClampNeg).toNatClampNeg = k) (h : Bw σ A t f) : ∃ τ1 : RS, τ1 = coS σ (aI σ 20 c.toNatClampNeg) 1 (gI σ 103).toInt.toNat ∧ Bw (fs_36 σ c).1 A ((t &&& f) &&& (coF σ (aI σ 20 c.toNatClampNeg) 1 (gI σ 103).toInt.toNat).1) ((t &&& f) &&& (coF σ (aI σ 20 c.toNatClampNeg) 1 (gI σ 103).toInt.toNat).1) ∧ FqT k σ (fs_36 σ c).1 ∧ Jq τ1 (fs_36 σ c).1 ∧ (¬ aI (fs_36 σ c).1 95 k = 0 ∧ aL (fs_36 σ c).1 98 k = aL σ 98 k ∧ aI (fs_36 σ c).1 97 k = aI σ 97 k) ∧ (fs_36 σ c).2 = aI σ 53 k + 1 := by
  refine ⟨_, rfl, ?_⟩
  unfold fs_36
  rw [hk, h.now]
  refine ⟨⟨⟨h.1.1, rfl, rfl⟩, h.2⟩, (FqT.rf.co.be).a95 up_k, Jq.rf, ⟨fun q => ?_, rfl, rfl⟩, rfl⟩
  exact absurd ((upd_eq (f := aI σ 95) (k := k) (x := (1 : Int32))).symm.trans q) (by decide)
theorem fw_37 (hk : (aI σ 20 c.toNatClampNeg).toNatClampNeg = k) (h : Bw σ A t f) : Bw (fs_37 σ c).1 True (t &&& f) (t &&& f) ∧ FqT k σ (fs_37 σ c).1 ∧ Jq σ (fs_37 σ c).1 ∧ aL (fs_37 σ c).1 96 k = t &&& f := by
  have e : nowR (beS σ (t &&& f)) = t &&& f := an_id
  unfold fs_37
  rw [hk, h.now, e]
  exact ⟨⟨⟨⟨fun _ => trivial, fun _ => by show ¬ (1 : Int32) = 0; decide⟩, rfl, rfl⟩, h.2⟩, ((FqT.rf.be).m96 vp_k).I rfl, Jq.rf, if_pos rfl⟩
theorem fw_38 (hk : (aI σ 20 c.toNatClampNeg).toNatClampNeg = k) (h : Bw σ A t f) : Bw (fs_38 σ c).1 True ((t &&& f) &&& aL σ 96 k) ((t &&& f) &&& aL σ 96 k) ∧ FqT k σ (fs_38 σ c).1 ∧ Jq σ (fs_38 σ c).1 ∧ aL (fs_38 σ c).1 96 k = aL σ 96 k := by
  unfold fs_38
  rw [hk, h.now]
  exact ⟨⟨⟨⟨fun _ => trivial, fun _ => by show ¬ (1 : Int32) = 0; decide⟩, rfl, rfl⟩, h.2⟩, (FqT.rf.be).I rfl, Jq.rf, rfl⟩
theorem fw_39 (hk : (aI σ 20 c.toNatClampNeg).toNatClampNeg = k) (h : Bw σ A t f) : Bw (fs_39 σ c).1 True ((t &&& f) &&& aL σ 96 k) ((t &&& f) &&& aL σ 96 k) ∧ FqT k σ (fs_39 σ c).1 ∧ Jq σ (fs_39 σ c).1 ∧ aL (fs_39 σ c).1 96 k = aL σ 96 k := by
  unfold fs_39
  rw [hk, h.now]
  exact ⟨⟨⟨⟨fun _ => trivial, fun _ => by show ¬ (1 : Int32) = 0; decide⟩, rfl, rfl⟩, h.2⟩, (FqT.rf.be).I rfl, Jq.rf, rfl⟩
theorem fw_40 (hk : (aI σ 20 c.toNatClampNeg).toNatClampNeg = k) (h : Bw σ A t f) : ∃ τ1 : RS, τ1 = coS σ (aI σ 20 c.toNatClampNeg) 0 (gI σ 103).toInt.toNat ∧ Bw (fs_40 σ c).1 ((A ∨ ¬ 0 ≤ aI σ 59 k) ∨ ¬ (coF σ (aI σ 20 c.toNatClampNeg) 0 (gI σ 103).toInt.toNat).2.1 = 0) (((t &&& f) &&& (coF σ (aI σ 20 c.toNatClampNeg) 0 (gI σ 103).toInt.toNat).1) &&& (if 0 ≤ aI σ 59 k then allB else aL σ 96 k)) (((t &&& f) &&& (coF σ (aI σ 20 c.toNatClampNeg) 0 (gI σ 103).toInt.toNat).1) &&& (if 0 ≤ aI σ 59 k then allB else aL σ 96 k)) ∧ FqT k σ (fs_40 σ c).1 ∧ Jq τ1 (fs_40 σ c).1 := by
  refine ⟨_, rfl, ?_⟩
  unfold fs_40
  rw [hk, h.now]
  split
  · rename_i d
    rw [if_pos (show 0 ≤ aI σ 59 k from d)]
    split
    · rename_i a
      split
      · rename_i b
        rw [if_pos (show 0 ≤ aI (beS (coS σ (aI σ 20 c.toNatClampNeg) 0 (gI σ 103).toInt.toNat) (((t &&& f) &&& (coF σ (aI σ 20 c.toNatClampNeg) 0 (gI σ 103).toInt.toNat).1) &&& Int64.ofInt (-1))) 59 k from d)]
        exact ⟨⟨⟨iff_of_false (fun q => q rfl) (fun q => q.elim (fun x => x.elim (fun y => (h.1.1.mpr y) a) (fun y => y d)) (fun x => x b)), rfl, rfl⟩, h.2⟩, (FqT.rf.co.be).I rfl, Jq.rf⟩
      · rename_i b
        exact ⟨⟨⟨iff_of_true (by show ¬ (1 : Int32) = 0; decide) (Or.inr b), rfl, rfl⟩, h.2⟩, (FqT.rf.co.be).I rfl, Jq.rf⟩
    · rename_i a
      exact ⟨⟨⟨iff_of_true (by show ¬ (1 : Int32) = 0; decide) (Or.inl (Or.inl (h.1.1.mp a))), rfl, rfl⟩, h.2⟩, (FqT.rf.co.be).I rfl, Jq.rf⟩
  · rename_i d
    rw [if_neg (show ¬ 0 ≤ aI σ 59 k from d)]
    split
    · rename_i a
      split
      · rename_i b
        rw [if_neg (show ¬ 0 ≤ aI (beS (coS σ (aI σ 20 c.toNatClampNeg) 0 (gI σ 103).toInt.toNat) (((t &&& f) &&& (coF σ (aI σ 20 c.toNatClampNeg) 0 (gI σ 103).toInt.toNat).1) &&& aL (coS σ (aI σ 20 c.toNatClampNeg) 0 (gI σ 103).toInt.toNat) 96 k)) 59 k from d)]
        exact ⟨⟨⟨iff_of_true (by show ¬ (1 : Int32) = 0; decide) (Or.inl (Or.inr d)), rfl, rfl⟩, h.2⟩, (FqT.rf.co.be).I rfl, Jq.rf⟩
      · rename_i b
        exact ⟨⟨⟨iff_of_true (by show ¬ (1 : Int32) = 0; decide) (Or.inr b), rfl, rfl⟩, h.2⟩, (FqT.rf.co.be).I rfl, Jq.rf⟩
    · rename_i a
      exact ⟨⟨⟨iff_of_true (by show ¬ (1 : Int32) = 0; decide) (Or.inl (Or.inl (h.1.1.mp a))), rfl, rfl⟩, h.2⟩, (FqT.rf.co.be).I rfl, Jq.rf⟩
theorem fw_42 (h : Bw σ A t f) : ∃ τ1 : RS, τ1 = coS σ (aI σ 20 c.toNatClampNeg) 0 (gI σ 103).toInt.toNat ∧ Bw (fs_42 σ c).1 (A ∨ ¬ (coF σ (aI σ 20 c.toNatClampNeg) 0 (gI σ 103).toInt.toNat).2.1 = 0) ((t &&& f) &&& (coF σ (aI σ 20 c.toNatClampNeg) 0 (gI σ 103).toInt.toNat).1) ((t &&& f) &&& (coF σ (aI σ 20 c.toNatClampNeg) 0 (gI σ 103).toInt.toNat).1) ∧ FqT k σ (fs_42 σ c).1 ∧ Jq τ1 (fs_42 σ c).1 := by
  refine ⟨_, rfl, ?_⟩
  unfold fs_42
  rw [h.now]
  split
  · rename_i a
    split
    · rename_i b
      exact ⟨⟨⟨iff_of_false (fun q => q rfl) (fun q => q.elim (fun x => (h.1.1.mpr x) a) (fun x => x b)), rfl, rfl⟩, h.2⟩, (FqT.rf.co.be).I rfl, Jq.rf⟩
    · rename_i b
      exact ⟨⟨⟨iff_of_true (by show ¬ (1 : Int32) = 0; decide) (Or.inr b), rfl, rfl⟩, h.2⟩, (FqT.rf.co.be).I rfl, Jq.rf⟩
  · rename_i a
    exact ⟨⟨⟨iff_of_true (by show ¬ (1 : Int32) = 0; decide) (Or.inl (h.1.1.mp a)), rfl, rfl⟩, h.2⟩, (FqT.rf.co.be).I rfl, Jq.rf⟩
theorem fw_50 (hk : (aI σ 20 c.toNatClampNeg).toNatClampNeg = k) (h : Bw σ A t f) : Bw (fs_50 σ c).1 A t f ∧ FqT k σ (fs_50 σ c).1 ∧ Jq σ (fs_50 σ c).1 ∧ aL (fs_50 σ c).1 99 k = t &&& f := by
  unfold fs_50
  rw [hk, h.now]
  exact ⟨h, FqT.rf.m99 vp_k, Jq.rf, if_pos rfl⟩
theorem fw_51 (hk : (aI σ 20 c.toNatClampNeg).toNatClampNeg = k) (h : Bw σ A t f) : Bw (fs_51 σ c).1 True (aL σ 99 k ||| (1 <<< ((aI σ 61 k).toInt64 &&& 63))) (aL σ 99 k ||| (1 <<< ((aI σ 61 k).toInt64 &&& 63))) ∧ FqT k σ (fs_51 σ c).1 ∧ Jq σ (fs_51 σ c).1 ∧ aL (fs_51 σ c).1 96 k = t &&& f ∧ (¬ aI (fs_51 σ c).1 95 k = 0 ↔ A) ∧ aL (fs_51 σ c).1 99 k = aL σ 99 k := by
  unfold fs_51
  rw [hk]
  refine ⟨⟨⟨⟨fun _ => trivial, fun _ => by show ¬ (1 : Int32) = 0; decide⟩, rfl, rfl⟩, h.2⟩, (((FqT.rf.a95 up_k).m96 vp_k).be).I rfl, Jq.rf, (if_pos rfl).trans h.now, ?_, rfl⟩
  have e : ∀ X : RS, aI X 95 k = gI σ 92 → (¬ aI X 95 k = 0 ↔ A) := fun X e => by rw [e]; exact h.1.1
  exact e _ upd_eq
theorem fw_52a (hk : (aI σ 20 c.toNatClampNeg).toNatClampNeg = k) (h : Bw σ A t f) (e : ¬ 0 ≤ aI σ 57 k) : Bw (fs_52 σ c).1 True (aL σ 99 k) (aL σ 99 k) ∧ FqT k σ (fs_52 σ c).1 ∧ Jq σ (fs_52 σ c).1 ∧ aL (fs_52 σ c).1 96 k = t &&& f ∧ (¬ aI (fs_52 σ c).1 95 k = 0 ↔ A) := by
  unfold fs_52
  rw [hk, if_neg e, if_neg e]
  refine ⟨⟨⟨⟨fun _ => trivial, fun _ => by show ¬ (1 : Int32) = 0; decide⟩, rfl, rfl⟩, h.2⟩, (((FqT.rf.a95 up_k).m96 vp_k).be).I rfl, Jq.rf, (if_pos rfl).trans h.now, ?_⟩
  have e : ∀ X : RS, aI X 95 k = gI σ 92 → (¬ aI X 95 k = 0 ↔ A) := fun X e => by rw [e]; exact h.1.1
  exact e _ upd_eq
theorem fw_52b (hk : (aI σ 20 c.toNatClampNeg).toNatClampNeg = k) (h : Bw σ A t f) (e : 0 ≤ aI σ 57 k) : Bw (fs_52 σ c).1 True (aL σ 99 k) (aL σ 99 k) ∧ FqT k σ (fs_52 σ c).1 ∧ Jq σ (fs_52 σ c).1 ∧ aL (fs_52 σ c).1 96 k = (t &&& f) &&& aL σ 96 k ∧ (¬ aI (fs_52 σ c).1 95 k = 0 ↔ (A ∨ ¬ aI σ 95 k = 0)) := by
  have hn : ∀ v : Int32, nowR (sA σ 95 (upd (aI σ 95) k v)) = t &&& f := fun _ => h.now
  have e0 : ∀ X : RS, aI X 95 k = 0 → gI σ 92 = 0 → aI σ 95 k = 0 → (¬ aI X 95 k = 0 ↔ (A ∨ ¬ aI σ 95 k = 0)) := fun X e a b => iff_of_false (fun q => q e) (fun q => q.elim (fun x => (h.1.1.mpr x) a) (fun x => x b))
  have e1 : ∀ X : RS, aI X 95 k = 1 → (A ∨ ¬ aI σ 95 k = 0) → (¬ aI X 95 k = 0 ↔ (A ∨ ¬ aI σ 95 k = 0)) := fun X e a => iff_of_true (by rw [e]; decide) a
  unfold fs_52
  rw [hk, if_pos e, hn, hn]
  split
  · rename_i a
    split
    · rename_i b
      exact ⟨⟨⟨⟨fun _ => trivial, fun _ => by show ¬ (1 : Int32) = 0; decide⟩, rfl, rfl⟩, h.2⟩, (((FqT.rf.a95 up_k).m96 vp_k).be).I rfl, Jq.rf, if_pos rfl, e0 _ upd_eq a b⟩
    · rename_i b
      exact ⟨⟨⟨⟨fun _ => trivial, fun _ => by show ¬ (1 : Int32) = 0; decide⟩, rfl, rfl⟩, h.2⟩, (((FqT.rf.a95 up_k).m96 vp_k).be).I rfl, Jq.rf, if_pos rfl, e1 _ upd_eq (Or.inr b)⟩
  · rename_i a
    exact ⟨⟨⟨⟨fun _ => trivial, fun _ => by show ¬ (1 : Int32) = 0; decide⟩, rfl, rfl⟩, h.2⟩, (((FqT.rf.a95 up_k).m96 vp_k).be).I rfl, Jq.rf, if_pos rfl, e1 _ upd_eq (Or.inl (h.1.1.mp a))⟩
theorem fw_53a (hk : (aI σ 20 c.toNatClampNeg).toNatClampNeg = k) (h : Bw σ A t f) (e : aI σ 58 k < 0) : Bw (fs_53 σ c).1 (A ∨ ¬ aI σ 95 k = 0) ((t &&& f) &&& aL σ 96 k) ((t &&& f) &&& aL σ 96 k) ∧ FqT k σ (fs_53 σ c).1 ∧ Jq σ (fs_53 σ c).1 := by
  have hn : ∀ v : Int32, nowR (sI σ 92 v) = t &&& f := fun _ => h.now
  unfold fs_53
  rw [hk, if_pos e, hn, hn]
  split
  · rename_i a
    split
    · rename_i b
      exact ⟨⟨⟨iff_of_false (fun q => q rfl) (fun q => q.elim (fun x => (h.1.1.mpr x) a) (fun x => x b)), rfl, rfl⟩, h.2⟩, (FqT.rf.I rfl).be, Jq.rf⟩
    · rename_i b
      exact ⟨⟨⟨iff_of_true (by show ¬ (1 : Int32) = 0; decide) (Or.inr b), rfl, rfl⟩, h.2⟩, (FqT.rf.I rfl).be, Jq.rf⟩
  · rename_i a
    exact ⟨⟨⟨iff_of_true (by show ¬ (1 : Int32) = 0; decide) (Or.inl (h.1.1.mp a)), rfl, rfl⟩, h.2⟩, (FqT.rf.I rfl).be, Jq.rf⟩
theorem fw_53b (hk : (aI σ 20 c.toNatClampNeg).toNatClampNeg = k) (h : Bw σ A t f) (e : ¬ aI σ 58 k < 0) : ∃ τ1 : RS, τ1 = enS σ (aI σ 20 c.toNatClampNeg) (gI σ 103).toInt.toNat ∧ Bw (fs_53 σ c).1 (A ∧ ¬ aI σ 95 k = 0) ((t &&& f) ||| aL σ 96 k) ((t &&& f) ||| aL σ 96 k) ∧ FqT k σ (fs_53 σ c).1 ∧ Jq τ1 (fs_53 σ c).1 := by
  refine ⟨_, rfl, ?_⟩
  have hn : ∀ v : Int32, nowR (sI (enS σ (aI σ 20 c.toNatClampNeg) (gI σ 103).toInt.toNat) 92 v) = t &&& f := fun _ => h.now
  unfold fs_53
  rw [hk, if_neg e, hn, hn]
  split
  · rename_i a
    exact ⟨⟨⟨iff_of_false (fun q => q rfl) (fun q => (h.1.1.mpr q.1) a), rfl, rfl⟩, h.2⟩, (FqT.rf.en.I rfl).be, Jq.rf⟩
  · rename_i a
    split
    · rename_i b
      exact ⟨⟨⟨iff_of_false (fun q => q rfl) (fun q => q.2 b), rfl, rfl⟩, h.2⟩, (FqT.rf.en.I rfl).be, Jq.rf⟩
    · rename_i b
      exact ⟨⟨⟨iff_of_true (by show ¬ (1 : Int32) = 0; decide) ⟨h.1.1.mp a, b⟩, rfl, rfl⟩, h.2⟩, (FqT.rf.en.I rfl).be, Jq.rf⟩
/-- where an S begins, where it ends -/
def LwT (σ τ : RS) : Prop := FfR σ τ ∧ (aI τ 95 = aI σ 95 ∧ aL τ 96 = aL σ 96 ∧ aI τ 97 = aI σ 97 ∧ aL τ 98 = aL σ 98 ∧ aL τ 99 = aL σ 99) ∧ Jq σ τ
theorem fw_20 (h : Bw σ A t f) (a : A) {u : Nat} (hu : (aI σ 22 c.toNatClampNeg).toNatClampNeg = u) (e : aI σ 109 u = 0) : Bw (fs_20 σ c).1 A t f ∧ LwT σ (fs_20 σ c).1 ∧ (aI (fs_20 σ c).1 109 = upd (aI σ 109) u 1 ∧ aL (fs_20 σ c).1 110 = vp_updL (aL σ 110) u (t &&& f) ∧ aI (fs_20 σ c).1 111 = aI σ 111) ∧ (fs_20 σ c).2 = c + 1 := by
  have hn : ∀ g : Nat → Int32, nowR (sA (sI σ 92 1) 109 g) = t &&& f := fun _ => h.now
  unfold fs_20
  rw [hu, if_neg (h.1.1.mpr a), if_pos e, hn]
  exact ⟨⟨⟨iff_of_true (by show ¬ (1 : Int32) = 0; decide) a, h.1.2⟩, h.2⟩, ⟨FfR.M rfl (FfR.A rfl (FfR.I rfl FfR.rf)), ⟨rfl, rfl, rfl, rfl, rfl⟩, Jq.rf⟩, ⟨rfl, rfl, rfl⟩, rfl⟩
theorem fw_45 (h : Bw σ A t f) {u : Nat} (hu : (aI σ 22 c.toNatClampNeg).toNatClampNeg = u) (e : 0 ≤ aI σ 20 c.toNatClampNeg) : Bw (fs_45 σ c).1 A t f ∧ LwT σ (fs_45 σ c).1 ∧ (aI (fs_45 σ c).1 109 = aI σ 109 ∧ aL (fs_45 σ c).1 110 = aL σ 110 ∧ aI (fs_45 σ c).1 111 = upd (aI σ 111) u (gI σ 92)) ∧ (fs_45 σ c).2 = c + 1 := by
  unfold fs_45
  rw [hu, if_neg (fun q => by rw [← q, h.2.2] at e; exact absurd e (by decide))]
  exact ⟨h, ⟨FfR.A rfl FfR.rf, ⟨rfl, rfl, rfl, rfl, rfl⟩, Jq.rf⟩, ⟨rfl, rfl, rfl⟩, rfl⟩
/-- a jump more -/
theorem jm_push {σ τ : RS} {K on c a : Int32} {b : Int64} {n : Nat} (hn : (gI σ 103).toInt = (n : Int)) (hn2 : n ≤ 5000) (hK : 0 ≤ K) (h103 : gI τ 103 = gI σ 103 + 1) (h104 : aI τ 104 = upd (aI σ 104) n K) (h105 : aI τ 105 = upd (aI σ 105) n on) (h106 : aI τ 106 = upd (aI σ 106) n c) (h107 : aI τ 107 = upd (aI σ 107) n a) (h108 : aL τ 108 = vp_updL (aL σ 108) n b) : jnS τ = jnS σ ++ [(K, on, c, a, b)] := by
  have e1 : (gI τ 103).toInt.toNat = n + 1 := by
    rw [h103, i32_add (by omega) (by omega), hn]
    omega
  have e2 : (gI σ 103).toInt.toNat = n := by rw [hn]; exact Int.toNat_natCast _
  unfold jnS
  rw [e1, e2, jmL]
  have r : ∀ i, ¬ i = n → jmE τ i = jmE σ i := fun i q => by
    unfold jmE
    rw [h104, h105, h106, h107, h108, upd_ne q, upd_ne q, upd_ne q, upd_ne q, show vp_updL (aL σ 108) n b i = aL σ 108 i from if_neg q]
  have s : jmE τ n = (K, on, c, a, b) := by
    unfold jmE
    rw [h104, h105, h106, h107, h108, upd_eq, upd_eq, upd_eq, upd_eq, show vp_updL (aL σ 108) n b n = b from if_pos rfl]
  have t : aI τ 104 n = K := by rw [h104, upd_eq]
  rw [jm_cg n (fun i hi => r i (by omega)), s, t, if_pos hK]
theorem fw_46 (h : Bw σ A t f) (a : A) {on : Int32} (ho : (aI σ 19 c.toNatClampNeg = 46 ∧ on = 0) ∨ (aI σ 19 c.toNatClampNeg = 47 ∧ on = 1)) {n : Nat} (hn : (gI σ 103).toInt = (n : Int)) (hn2 : n ≤ 5000) (hK : 0 ≤ aI σ 20 c.toNatClampNeg) : Bw (fs_46 σ c).1 False allB allB ∧ FqT k σ (fs_46 σ c).1 ∧ jnS (fs_46 σ c).1 = jnS σ ++ [(aI σ 20 c.toNatClampNeg, on, c, 1, t &&& f)] ∧ gI (fs_46 σ c).1 103 = gI σ 103 + 1 ∧ (fs_46 σ c).2 = c + 1 := by
  have nn : (gI σ 103).toNatClampNeg = n := nT_x hn
  have h117 : ¬ 0 ≤ gI σ 117 := by rw [h.2.2]; decide
  have hn' : ∀ g1 g2 g3 g4 : Nat → Int32, nowR (sA (sA (sA (sA σ 104 g1) 105 g2) 106 g3) 107 g4) = t &&& f := fun _ _ _ _ => h.now
  unfold fs_46
  rcases ho with ⟨o1, rfl⟩ | ⟨o1, rfl⟩
  · rw [if_neg (by rw [o1]; decide), if_neg (h.1.1.mpr a), if_neg h117, nn, hn']
    refine ⟨⟨⟨⟨fun q => q rfl, fun q => absurd q id⟩, rfl, rfl⟩, h.2⟩, ((((((((FqT.rf.a104).a105).a106).a107).m108).I rfl).I rfl).be), ?_, rfl, rfl⟩
    exact jm_push hn hn2 hK rfl rfl rfl rfl rfl rfl
  · rw [if_pos o1, if_neg (h.1.1.mpr a), if_neg h117, nn, hn']
    refine ⟨⟨⟨⟨fun q => q rfl, fun q => absurd q id⟩, rfl, rfl⟩, h.2⟩, ((((((((FqT.rf.a104).a105).a106).a107).m108).I rfl).I rfl).be), ?_, rfl, rfl⟩
    exact jm_push hn hn2 hK rfl rfl rfl rfl rfl rfl
theorem fs_47e : fs_47 σ c = fs_46 σ c := rfl
end
