/-! values of CONSTANTS are of their TYPES -/
theorem nr_id {t : Int} {v : Int64} : nrT t (nrT t v) = nrT t v := by
  by_cases h1 : t = 1
  · subst h1
    rw [nr_1]
    have e : nrT 1 v = v.toInt32.toInt8.toInt32.toInt64 := rfl
    have b1 := v.toInt32.toInt8.toInt_lt
    have b2 := v.toInt32.toInt8.le_toInt
    rw [e, Int32.toInt_toInt64, Int8.toInt_toInt32]
    omega
  by_cases h2 : t = 2
  · subst h2
    rw [nr_2]
    have e : nrT 2 v = (v.toInt32.toUInt32 % 65536).toInt32.toInt64 := rfl
    have q : (v.toInt32.toUInt32 % 65536).toNat = v.toInt32.toUInt32.toNat % 65536 := UInt32.toNat_mod _ _
    have r : (v.toInt32.toUInt32 % 65536).toInt32.toInt = ((v.toInt32.toUInt32 % 65536).toNat : Int) := by
      have z : (v.toInt32.toUInt32 % 65536).toInt32.toBitVec.toNat = (v.toInt32.toUInt32 % 65536).toNat := rfl
      show (v.toInt32.toUInt32 % 65536).toInt32.toBitVec.toInt = _
      rw [BitVec.toInt_eq_toNat_cond, z, if_pos (by omega)]
    rw [e, Int32.toInt_toInt64, r, q]
    omega
  by_cases h3 : t = 3
  · subst h3
    rw [nr_3]
    have e : nrT 3 v = v.toInt32.toInt64 := rfl
    have b1 := v.toInt32.toInt_lt
    have b2 := v.toInt32.le_toInt
    rw [e, Int32.toInt_toInt64]
    omega
  · have e : ∀ w, nrT t w = w := fun w => by unfold nrT; rw [if_neg h1, if_neg h2, if_neg h3]
    rw [e, e]
theorem nr_i3 {x : Int32} : nrT 3 x.toInt64 = x.toInt64 := by
  have b1 := x.toInt_lt
  have b2 := x.le_toInt
  exact nr_3.mpr (by rw [Int32.toInt_toInt64]; omega)
theorem nr_e3 {v : Int64} (h : nrT 3 v = v) : v = v.toInt32.toInt64 := h.symm
theorem nr_and {a b : Int64} (ha : nrT 3 a = a) (hb : nrT 3 b = b) : nrT 3 (a &&& b) = a &&& b ∧ nrT 3 (a ||| b) = a ||| b ∧ nrT 3 (a ^^^ b) = a ^^^ b := by
  rw [nr_e3 ha, nr_e3 hb, ← Int32.toInt64_and, ← Int32.toInt64_or, ← Int32.toInt64_xor]
  exact ⟨nr_i3, nr_i3, nr_i3⟩
theorem b_and {a b : Int64} (ha : a = 0 ∨ a = 1) (hb : b = 0 ∨ b = 1) : (a &&& b = 0 ∨ a &&& b = 1) ∧ (a ||| b = 0 ∨ a ||| b = 1) ∧ (a ^^^ b = 0 ∨ a ^^^ b = 1) := by
  rcases ha with rfl | rfl <;> rcases hb with rfl | rfl <;> decide
theorem wr_34 {sg l r : Int} (z : ¬ l = 0) : wrT sg l r = 3 ∨ wrT sg l r = 4 := by
  unfold wrT pmT
  rw [if_neg z]
  repeat' first | exact Or.inl rfl | exact Or.inr rfl | split
/-- what an operator makes -/
theorem va_wk {sg : Int} {a b : TvT} (ha : VaT a) (hb : VaT b) (ca : ¬ a.2.1 = 0) (cb : ¬ b.2.1 = 0) (hl : ltT sg a.1) (hr : rtT a.1 b.1) (hs : 20 ≤ sg ∧ sg ≤ 38) : nrT (if 25 ≤ sg ∧ sg ≤ 30 then 0 else wrT sg a.1 b.1) (cvT sg (wrT sg a.1 b.1) a.2.2.1 b.2.2.1) = cvT sg (wrT sg a.1 b.1) a.2.2.1 b.2.2.1 ∧ ((if 25 ≤ sg ∧ sg ≤ 30 then 0 else wrT sg a.1 b.1) = 0 → cvT sg (wrT sg a.1 b.1) a.2.2.1 b.2.2.1 = 0 ∨ cvT sg (wrT sg a.1 b.1) a.2.2.1 b.2.2.1 = 1) := by
  have a1 := ha.2 ca
  have b1 := hb.2 cb
  have a0 := ha.1
  have b0 := hb.1
  have n0 : ∀ w, nrT 0 w = w := fun _ => rfl
  by_cases hc : 25 ≤ sg ∧ sg ≤ 30
  · rw [if_pos hc]
    have e : cvT sg (wrT sg a.1 b.1) a.2.2.1 b.2.2.1 = 0 ∨ cvT sg (wrT sg a.1 b.1) a.2.2.1 b.2.2.1 = 1 := by
      rw [cv_wk (by omega)]
      unfold wkT
      rw [if_neg (by omega), if_neg (by omega), if_neg (by omega), if_neg (by omega), if_neg (by omega), if_neg (by omega), if_neg (by omega), if_neg (by omega), if_neg (by omega)]
      split
      · exact Or.inr rfl
      · exact Or.inl rfl
    exact ⟨rfl, fun _ => e⟩
  rw [if_neg hc]
  by_cases z : a.1 = 0
  · have w0 : wrT sg a.1 b.1 = 0 := if_pos z
    rw [w0]
    have ab := b_and (a1.2 z) (b1.2 (by omega))
    have e : cvT sg 0 a.2.2.1 b.2.2.1 = 0 ∨ cvT sg 0 a.2.2.1 b.2.2.1 = 1 := by
      unfold cvT
      by_cases h1 : sg = 21
      · rw [if_pos h1]; exact ab.1
      rw [if_neg h1]
      by_cases h2 : sg = 20
      · rw [if_pos h2]; exact ab.2.1
      rw [if_neg h2]
      unfold wkT
      rw [if_neg (by omega), if_neg (by omega), if_neg (by omega), if_neg (by omega), if_neg (by omega)]
      by_cases h3 : sg = 24
      · rw [if_pos h3]; exact ab.1
      rw [if_neg h3]
      by_cases h4 : sg = 22
      · rw [if_pos h4]; exact ab.2.1
      rw [if_neg h4, if_pos (by omega)]
      exact ab.2.2
    exact ⟨rfl, fun _ => e⟩
  · have sg2 : 22 ≤ sg := by omega
    rw [cv_wk sg2]
    have wn : ¬ wrT sg a.1 b.1 = 0 := by
      unfold wrT
      rw [if_neg z]
      split
      · exact pm_nz
      · split <;> decide
    refine ⟨?_, fun q => absurd q wn⟩
    by_cases w4 : wrT sg a.1 b.1 = 4
    · rw [w4]; rfl
    have w3 : wrT sg a.1 b.1 = 3 := (wr_34 z).resolve_right w4
    unfold wkT
    by_cases h : sg = 34
    · rw [if_pos h]; exact nr_id
    rw [if_neg h]
    by_cases h : sg = 35
    · rw [if_pos h]; exact nr_id
    rw [if_neg h]
    by_cases h : sg = 36
    · rw [if_pos h]; exact nr_id
    rw [if_neg h]
    by_cases h : sg = 37
    · rw [if_pos h]
      split
      · rw [w3]; rfl
      · exact nr_id
    rw [if_neg h]
    by_cases h : sg = 38
    · rw [if_pos h]
      split
      · rw [w3]; rfl
      · exact nr_id
    rw [if_neg h]
    rw [w3]
    by_cases hsh : sg = 31 ∨ sg = 32 ∨ sg = 33
    · rw [if_neg (by omega), if_neg (by omega), if_neg (by omega), if_pos hsh]
      unfold shT
      rw [if_neg (by decide)]
      exact nr_i3
    · have na : ¬ a.1 = 4 ∧ ¬ b.1 = 4 := by
        unfold wrT at w3
        rw [if_neg z, if_neg (by omega)] at w3
        by_cases q : a.1 = 4 ∨ b.1 = 4
        · rw [if_pos q] at w3; exact absurd w3 (by decide)
        · omega
      have p := nr_and (nr_3.mpr (nr_rg (by omega) na.1 a1.1)) (nr_3.mpr (nr_rg (by omega) na.2 b1.1))
      by_cases h : sg = 24
      · rw [if_pos h]; exact p.1
      rw [if_neg h]
      by_cases h : sg = 22
      · rw [if_pos h]; exact p.2.1
      rw [if_neg h, if_pos (by omega)]
      exact p.2.2
theorem va_un {sg : Int} {a : TvT} (ha : VaT a) (ca : ¬ a.2.1 = 0) (hs : sg = 34 ∨ sg = 35 ∨ sg = 39 ∨ sg = 40) (ht : (sg = 39 ∧ a.1 = 0) ∨ (¬ sg = 39 ∧ nuT a.1)) : nrT (auT sg a.1) (alT sg (auT sg a.1) a.2.2.1) = alT sg (auT sg a.1) a.2.2.1 ∧ (auT sg a.1 = 0 → alT sg (auT sg a.1) a.2.2.1 = 0 ∨ alT sg (auT sg a.1) a.2.2.1 = 1) := by
  have a1 := ha.2 ca
  by_cases h : sg = 39
  · subst h
    have z : a.1 = 0 := by omega
    have e : auT 39 a.1 = 0 := by unfold auT; rw [if_pos rfl]; exact z
    rw [e]
    refine ⟨rfl, fun _ => ?_⟩
    show a.2.2.1 ^^^ 1 = 0 ∨ a.2.2.1 ^^^ 1 = 1
    rcases a1.2 z with q | q <;> rw [q] <;> decide
  · have e : auT sg a.1 = pmT a.1 := if_neg h
    rw [e]
    refine ⟨?_, fun q => absurd q pm_nz⟩
    unfold alT
    by_cases h5 : sg = 35
    · rw [if_pos h5]; exact nr_id
    rw [if_neg h5]
    by_cases h0 : sg = 40
    · rw [if_pos h0]; exact nr_no (by omega) a1.1
    rw [if_neg h0, if_neg h]
    exact nr_w (by omega) a1.1
/-- variables' values -/
def VvT (C : CxT) (T : TbT) : Prop := ∀ v : Nat, v < C.2.2.1 → (0 ≤ (C.2.1 v).1 ∧ (C.2.1 v).1 ≤ 4) ∧ (¬ (T.2 v).1 = 0 → nrT (C.2.1 v).1 (T.2 v).2 = (T.2 v).2 ∧ ((C.2.1 v).1 = 0 → (T.2 v).2 = 0 ∨ (T.2 v).2 = 1))
/-- methods' TYPES -/
def MyT (C : CxT) : Prop := ∀ i e, C.2.2.2 i = some e → 0 ≤ e.2.1 ∧ e.2.1 ≤ 5
theorem va_ex {C : CxT} {T : TbT} {i : Nat} {x : XrZ} {e : TvT} (h : exT C T i x = some e) (hk : 0 ≤ x.1.1 ∧ x.1.1 ≤ 10) (h0 : VaT (T.1 i) ∨ 2 ≤ x.1.1 ∨ x.1.1 = 0) (hn : (x.1.1 = 6 ∨ x.1.1 = 9 ∨ x.1.1 = 10 ∨ x.1.1 = 2) → (T.1 i).2.1 = 0)
    (h1 : x.1.1 = 3 ∨ x.1.1 = 4 ∨ x.1.1 = 5 → VaT (opT T x.2.2.1.2.1)) (h7 : x.1.1 = 7 → VaT (opT T x.2.2.1.2.1) ∧ VaT (opT T x.2.2.1.2.2.1)) (h8 : x.1.1 = 8 → VaT (opT T x.2.2.1.2.2.1) ∧ VaT (opT T x.2.2.1.2.2.2.1))
    (hv : VvT C T) (hm : MyT C) (hs : (x.1.1 = 4 → x.1.2.1 = 34 ∨ x.1.2.1 = 35 ∨ x.1.2.1 = 39 ∨ x.1.2.1 = 40) ∧ (x.1.1 = 5 → 0 ≤ x.2.1.2.2 ∧ x.2.1.2.2 ≤ 4) ∧ (x.1.1 = 7 → 20 ≤ x.1.2.1 ∧ x.1.2.1 ≤ 38)) : VaT e := by
  have kk : x.1.1 = 0 ∨ x.1.1 = 1 ∨ x.1.1 = 2 ∨ x.1.1 = 3 ∨ x.1.1 = 4 ∨ x.1.1 = 5 ∨ x.1.1 = 6 ∨ x.1.1 = 7 ∨ x.1.1 = 8 ∨ x.1.1 = 9 ∨ x.1.1 = 10 := by omega
  rcases kk with k | k | k | k | k | k | k | k | k | k | k
  · rw [ex_0 k] at h
    unfold x0T at h
    split at h
    · cases h
    · cases h
      have t : nyT x.1.2.1 = 3 ∨ nyT x.1.2.1 = 4 := by unfold nyT; split <;> omega
      exact ⟨by show 0 ≤ nyT x.1.2.1 ∧ nyT x.1.2.1 ≤ 5; omega, fun _ => ⟨nr_id, fun q => by have q : nyT x.1.2.1 = 0 := q; omega⟩⟩
  · rw [ex_d (Or.inl k)] at h
    cases h
    exact h0.resolve_right (by omega)
  · rw [ex_2 k] at h
    unfold x2T at h
    split at h
    · next q =>
      have v := hv x.2.1.2.1.toNat (by omega)
      cases h
      by_cases z : (T.2 x.2.1.2.1.toNat).1 = 0
      · rw [if_pos z]
        exact ⟨by show 0 ≤ (vtT C x.2.1.2.1).1 ∧ (vtT C x.2.1.2.1).1 ≤ 5; have := v.1; unfold vtT; omega, fun q => absurd (hn (by omega)) q⟩
      · rw [if_neg z]
        exact ⟨by show 0 ≤ (vtT C x.2.1.2.1).1 ∧ (vtT C x.2.1.2.1).1 ≤ 5; have := v.1; unfold vtT; omega, fun _ => v.2 z⟩
    · cases h
  · rw [ex_3 k] at h
    cases h
    have a := h1 (by omega)
    exact ⟨a.1, fun q => ⟨nr_id, fun z => by have w := (a.2 q).2 z; have z : (opT T x.2.2.1.2.1).1 = 0 := z; show nrT (opT T x.2.2.1.2.1).1 _ = 0 ∨ nrT (opT T x.2.2.1.2.1).1 _ = 1; rw [z]; exact w⟩⟩
  · rw [ex_4 k] at h
    unfold x4T at h
    have a := h1 (by omega)
    split at h
    · next q =>
      cases h
      refine ⟨?_, fun c => va_un a c (hs.1 k) q⟩
      have a0 := a.1
      show 0 ≤ auT x.1.2.1 _ ∧ auT x.1.2.1 _ ≤ 5
      unfold auT pmT
      split
      · exact a0
      · split <;> decide
    · cases h
  · rw [ex_5 k] at h
    unfold x5T at h
    have a := h1 (by omega)
    split at h
    · next q =>
      cases h
      have y := hs.2.1 k
      refine ⟨by show 0 ≤ x.2.1.2.2 ∧ x.2.1.2.2 ≤ 5; omega, fun c => ⟨nr_id, fun z => ?_⟩⟩
      have z : x.2.1.2.2 = 0 := z
      show nrT x.2.1.2.2 _ = 0 ∨ nrT x.2.1.2.2 _ = 1
      rw [z]
      exact (a.2 c).2 (by omega)
    · cases h
  · rw [ex_6 k] at h
    unfold x6T at h
    split at h
    · next q =>
      cases h
      exact ⟨by show 0 ≤ (vtT C x.2.1.2.1).1 ∧ (vtT C x.2.1.2.1).1 ≤ 5; omega, fun c => absurd (hn (by omega)) c⟩
    · cases h
  · rw [ex_7 k] at h
    unfold x7T at h
    obtain ⟨a, b⟩ := h7 k
    split at h
    · next q =>
      cases h
      have sg := hs.2.2 k
      refine ⟨?_, fun c => ?_⟩
      · show 0 ≤ (if 25 ≤ x.1.2.1 ∧ x.1.2.1 ≤ 30 then 0 else wrT _ _ _) ∧ (if 25 ≤ x.1.2.1 ∧ x.1.2.1 ≤ 30 then 0 else wrT _ _ _) ≤ 5
        unfold wrT pmT
        repeat' first | decide | split
      · have c : ¬ csT x.1.2.1 (opT T x.2.2.1.2.1) (opT T x.2.2.1.2.2.1) = 0 := c
        have d : ¬ (opT T x.2.2.1.2.1).2.1 = 0 ∧ ¬ (opT T x.2.2.1.2.2.1).2.1 = 0 ∧ csT x.1.2.1 (opT T x.2.2.1.2.1) (opT T x.2.2.1.2.2.1) = 1 := by
          unfold csT at c ⊢
          split at c
          · next z => exact ⟨z.1, z.2.1, if_pos z⟩
          · exact absurd rfl c
        have w := va_wk a b d.1 d.2.1 q.1 q.2 sg
        dsimp only
        rw [if_pos d.2.2]
        exact w
    · cases h
  · rw [ex_8 k] at h
    unfold x8T at h
    obtain ⟨b, c⟩ := h8 k
    split at h
    · next q =>
      cases h
      refine ⟨?_, fun d => ?_⟩
      · have b0 := b.1
        have c0 := c.1
        show 0 ≤ ctT _ _ ∧ ctT _ _ ≤ 5
        unfold ctT
        repeat' first | (split) | omega
      · have d : ¬ (if (¬ (opT T x.2.2.1.2.1).2.1 = 0 ∧ ¬ (opT T x.2.2.1.2.2.1).2.1 = 0) ∧ ¬ (opT T x.2.2.1.2.2.2.1).2.1 = 0 then (1 : Int) else 0) = 0 := d
        have d : (¬ (opT T x.2.2.1.2.1).2.1 = 0 ∧ ¬ (opT T x.2.2.1.2.2.1).2.1 = 0) ∧ ¬ (opT T x.2.2.1.2.2.2.1).2.1 = 0 := by
          by_cases z : (¬ (opT T x.2.2.1.2.1).2.1 = 0 ∧ ¬ (opT T x.2.2.1.2.2.1).2.1 = 0) ∧ ¬ (opT T x.2.2.1.2.2.2.1).2.1 = 0
          · exact z
          · rw [if_neg z] at d; exact absurd rfl d
        have w := ct_v b c d.1.2 d.2 q.2 q.1.2
        have b1 := b.2 d.1.2
        have c1 := c.2 d.2
        have two : ∀ v, caT (ctT (opT T x.2.2.1.2.2.1) (opT T x.2.2.1.2.2.2.1)) v = v → nrT (ctT (opT T x.2.2.1.2.2.1) (opT T x.2.2.1.2.2.2.1)) v = v ∧ (ctT (opT T x.2.2.1.2.2.1) (opT T x.2.2.1.2.2.2.1) = 0 → v = 0 ∨ v = 1) := by
          intro v hv
          by_cases z : ctT (opT T x.2.2.1.2.2.1) (opT T x.2.2.1.2.2.2.1) = 0
          · rw [z] at hv ⊢
            refine ⟨rfl, fun _ => ?_⟩
            unfold caT at hv
            rw [if_pos rfl] at hv
            split at hv
            · exact Or.inl hv.symm
            · exact Or.inr hv.symm
          · rw [ca_nr z] at hv
            exact ⟨hv, fun q => absurd q z⟩
        dsimp only
        split
        · exact two _ w.1
        · exact two _ w.2
    · cases h
  · rw [ex_9 k] at h
    unfold x9T at h
    split at h
    · next q =>
      have v := hv x.2.1.2.1.toNat (by omega)
      cases h
      exact ⟨by show 0 ≤ (vtT C x.2.1.2.1).1 ∧ (vtT C x.2.1.2.1).1 ≤ 5; have := v.1; unfold vtT; omega, fun c => absurd (hn (by omega)) c⟩
    · cases h
  · rw [ex_10 k] at h
    unfold xaT at h
    split at h
    · next q =>
      cases h
      refine ⟨?_, fun c => absurd (hn (by omega)) c⟩
      show 0 ≤ mtyT C _ ∧ mtyT C _ ≤ 5
      unfold mtyT
      split
      · next m hm' => exact hm _ _ hm'
      · decide
    · cases h
