def iFz (k : Nat) : Bool := k == 128 || k == 129 || k == 133 || k == 141 || k == 142 || (144 ≤ k && k ≤ 148)
def gFz (k : Nat) : Bool := k == 143
def aFz (k : Nat) : Bool := k == 131 || k == 132 || (134 ≤ k && k ≤ 139)
def lFz (k : Nat) : Bool := k == 127 || k == 130 || k == 140 || k == 149
def Fz (σ τ : RS) : Prop := (∀ k, iFz k = false → gI τ k = gI σ k) ∧ (∀ k, gFz k = false → gL τ k = gL σ k) ∧ (∀ k, aFz k = false → aI τ k = aI σ k) ∧ ∀ k, lFz k = false → aL τ k = aL σ k
theorem Fz.rf {σ : RS} : Fz σ σ := ⟨fun _ _ => rfl, fun _ _ => rfl, fun _ _ => rfl, fun _ _ => rfl⟩
theorem Fz.tr {σ τ υ : RS} (h1 : Fz σ τ) (h2 : Fz τ υ) : Fz σ υ := ⟨fun k hk => (h2.1 k hk).trans (h1.1 k hk), fun k hk => (h2.2.1 k hk).trans (h1.2.1 k hk), fun k hk => (h2.2.2.1 k hk).trans (h1.2.2.1 k hk), fun k hk => (h2.2.2.2 k hk).trans (h1.2.2.2 k hk)⟩
theorem Fz.i {σ τ : RS} (h : Fz σ τ) {k : Nat} {v : Int32} (hk : iFz k = true) : Fz σ (sI τ k v) := ⟨fun j hj => by
  rw [gI_sI, nb_ne (fun q => by subst q; rw [hk] at hj; cases hj)]
  exact h.1 j hj, h.2.1, h.2.2.1, h.2.2.2⟩
theorem Fz.g {σ τ : RS} (h : Fz σ τ) {k : Nat} {v : Int64} (hk : gFz k = true) : Fz σ (sL τ k v) := ⟨h.1, fun j hj => by
  rw [gL_sL, nb_ne (fun q => by subst q; rw [hk] at hj; cases hj)]
  exact h.2.1 j hj, h.2.2.1, h.2.2.2⟩
theorem Fz.a {σ τ : RS} (h : Fz σ τ) {k : Nat} {f : Nat → Int32} (hk : aFz k = true) : Fz σ (sA τ k f) := ⟨h.1, h.2.1, fun j hj => by
  rw [aI_sA, nb_ne (fun q => by subst q; rw [hk] at hj; cases hj)]
  exact h.2.2.1 j hj, h.2.2.2⟩
theorem Fz.m {σ τ : RS} (h : Fz σ τ) {k : Nat} {f : Nat → Int64} (hk : lFz k = true) : Fz σ (sM τ k f) := ⟨h.1, h.2.1, h.2.2.1, fun j hj => by
  rw [aL_sM, nb_ne (fun q => by subst q; rw [hk] at hj; cases hj)]
  exact h.2.2.2 j hj⟩
def iRy (k : Nat) : Bool := k == 128 || k == 129 || k == 133 || k == 141 || k == 142
def gRy (k : Nat) : Bool := k == 143
def aRy (k : Nat) : Bool := 134 ≤ k && k ≤ 139
def lRy (k : Nat) : Bool := k == 127 || k == 130 || k == 140
def Ry (σ τ : RS) : Prop := (∀ k, iRy k = false → gI τ k = gI σ k) ∧ (∀ k, gRy k = false → gL τ k = gL σ k) ∧ (∀ k, aRy k = false → aI τ k = aI σ k) ∧ ∀ k, lRy k = false → aL τ k = aL σ k
theorem Ry.rf {σ : RS} : Ry σ σ := ⟨fun _ _ => rfl, fun _ _ => rfl, fun _ _ => rfl, fun _ _ => rfl⟩
theorem Ry.tr {σ τ υ : RS} (h1 : Ry σ τ) (h2 : Ry τ υ) : Ry σ υ := ⟨fun k hk => (h2.1 k hk).trans (h1.1 k hk), fun k hk => (h2.2.1 k hk).trans (h1.2.1 k hk), fun k hk => (h2.2.2.1 k hk).trans (h1.2.2.1 k hk), fun k hk => (h2.2.2.2 k hk).trans (h1.2.2.2 k hk)⟩
theorem Ry.i {σ τ : RS} (h : Ry σ τ) {k : Nat} {v : Int32} (hk : iRy k = true) : Ry σ (sI τ k v) := ⟨fun j hj => by
  rw [gI_sI, nb_ne (fun q => by subst q; rw [hk] at hj; cases hj)]
  exact h.1 j hj, h.2.1, h.2.2.1, h.2.2.2⟩
theorem Ry.g {σ τ : RS} (h : Ry σ τ) {k : Nat} {v : Int64} (hk : gRy k = true) : Ry σ (sL τ k v) := ⟨h.1, fun j hj => by
  rw [gL_sL, nb_ne (fun q => by subst q; rw [hk] at hj; cases hj)]
  exact h.2.1 j hj, h.2.2.1, h.2.2.2⟩
theorem Ry.a {σ τ : RS} (h : Ry σ τ) {k : Nat} {f : Nat → Int32} (hk : aRy k = true) : Ry σ (sA τ k f) := ⟨h.1, h.2.1, fun j hj => by
  rw [aI_sA, nb_ne (fun q => by subst q; rw [hk] at hj; cases hj)]
  exact h.2.2.1 j hj, h.2.2.2⟩
theorem Ry.m {σ τ : RS} (h : Ry σ τ) {k : Nat} {f : Nat → Int64} (hk : lRy k = true) : Ry σ (sM τ k f) := ⟨h.1, h.2.1, h.2.2.1, fun j hj => by
  rw [aL_sM, nb_ne (fun q => by subst q; rw [hk] at hj; cases hj)]
  exact h.2.2.2 j hj⟩
theorem Ry.z {σ τ : RS} (h : Ry σ τ) : Fz σ τ := by
  refine ⟨fun k hk => h.1 k ?_, h.2.1, fun k hk => h.2.2.1 k ?_, fun k hk => h.2.2.2 k ?_⟩
  · unfold iFz at hk
    unfold iRy
    simp only [Bool.or_eq_false_iff, Bool.and_eq_false_imp, decide_eq_true_eq, decide_eq_false_iff_not, beq_eq_false_iff_ne] at hk ⊢
    omega
  · unfold aFz at hk
    unfold aRy
    simp only [Bool.or_eq_false_iff, Bool.and_eq_false_imp, decide_eq_true_eq, decide_eq_false_iff_not, beq_eq_false_iff_ne] at hk ⊢
    omega
  · unfold lFz at hk
    unfold lRy
    simp only [Bool.or_eq_false_iff, Bool.and_eq_false_imp, decide_eq_true_eq, decide_eq_false_iff_not, beq_eq_false_iff_ne] at hk ⊢
    omega
theorem PK.fz {σ τ : RS} (h : PK σ) (hf : Fz σ τ) : PK τ := by
  obtain ⟨f, k, j, hp⟩ := h
  have h1 := hp.1.1
  have e14 : gI (sI (sA τ 59 f) 62 0) 14 = gI (sI (sA σ 59 f) 62 0) 14 := hf.1 14 rfl
  refine ⟨f, k, j, ?_⟩
  rw [hf.1 36 rfl]
  exact hp.mv (σ' := sI (sA τ 59 f) 62 0) k j ⟨by rw [e14]; exact Int.le_refl _, by rw [e14]; exact h1.2⟩ ⟨hp.1.2.1.2.2, by rw [e14]; omega⟩ ⟨hp.1.2.2.2.2.2.2, by rw [e14]; omega⟩ True.intro (hf.1 17 rfl) (hf.1 49 rfl) rfl (hf.1 42 rfl) (hf.1 36 rfl) (hf.2.2.1 63 rfl) (hf.2.2.1 64 rfl) (hf.2.2.1 65 rfl) (hf.2.2.1 43 rfl) (hf.2.2.1 37 rfl) (hf.2.2.1 39 rfl) (hf.2.2.1 40 rfl) (hf.2.2.1 41 rfl) (hf.1 18 rfl) (hf.2.2.1 19 rfl) (hf.2.2.1 20 rfl) (hf.2.2.1 21 rfl) (hf.2.2.1 22 rfl) (hf.2.2.1 23 rfl) (hf.2.2.1 24 rfl) (hf.2.2.1 50 rfl) (hf.2.2.1 51 rfl) (hf.2.2.1 52 rfl) (hf.2.2.1 53 rfl) (hf.2.2.1 54 rfl) (hf.2.2.1 55 rfl) (hf.2.2.1 56 rfl) (hf.2.2.1 57 rfl) (hf.2.2.1 58 rfl) rfl (hf.2.2.1 60 rfl) (hf.2.2.1 61 rfl) (hf.2.2.1 3 rfl) (hf.2.2.1 6 rfl) (hgz := fun z => z.same (hf.2.2.1 6 rfl) (hf.2.2.1 38 rfl) (hf.2.2.1 44 rfl))
theorem JD.fz {σ τ : RS} (h : JD σ) (hf : Fz σ τ) : JD τ := by
  obtain ⟨h1, ⟨h2, h3, h4⟩, h5, h6⟩ := h
  have r19 := hf.2.2.1 19 rfl
  have r20 := hf.2.2.1 20 rfl
  have r21 := hf.2.2.1 21 rfl
  have r22 := hf.2.2.1 22 rfl
  have r59 := hf.2.2.1 59 rfl
  have r80 := hf.2.2.1 80 rfl
  have r81 := hf.2.2.1 81 rfl
  have r82 := hf.2.2.1 82 rfl
  have r83 := hf.2.2.1 83 rfl
  have r38 := hf.2.2.1 38 rfl
  have r39 := hf.2.2.1 39 rfl
  have i18 := hf.1 18 rfl
  have i36 := hf.1 36 rfl
  have i42 := hf.1 42 rfl
  have i49 := hf.1 49 rfl
  refine ⟨h1.fz hf, ⟨by rw [hf.1 68 rfl]; exact h2, by rw [hf.1 91 rfl]; exact h3, by rw [hf.1 74 rfl]; exact h4⟩, by rw [i49, r59, r19, r20, i18]; exact h5, fun q => ?_⟩
  rw [i18, r19, r20, r21, r81]
  obtain ⟨g1, g2⟩ := h6 (by rw [← hf.1 66 rfl]; exact q)
  refine ⟨fun i hi => ?_, g2⟩
  obtain ⟨a1, a2, a3, a4, a5⟩ := g1 i hi
  unfold EC
  rw [r19, r20, r21, r22, r80, r81, r82, r83, i42]
  exact ⟨a1, a2, fun z => ⟨(a3 z).1.fr i36 r39, (a3 z).2.fr r38⟩, a4, a5⟩
theorem RG.fz {σ τ : RS} (h : RG σ) (hf : Fz σ τ) : RG τ := by
  obtain ⟨h1, h2, h3⟩ := h
  refine ⟨h1.fz hf, by rw [hf.1 66 rfl]; exact h2, ?_⟩
  rw [hf.1 18 rfl]
  unfold LD
  rw [hf.2.2.1 19 rfl, hf.2.2.1 20 rfl, hf.2.2.1 21 rfl, hf.2.2.1 125 rfl]
  exact h3
/-- the program's own numbers are the same -/
def SE (σ τ : RS) : Prop := (gI τ 18 = gI σ 18 ∧ gI τ 36 = gI σ 36) ∧ (aI τ 19 = aI σ 19 ∧ aI τ 20 = aI σ 20 ∧ aI τ 21 = aI σ 21 ∧ aI τ 81 = aI σ 81) ∧ aI τ 51 = aI σ 51 ∧ aI τ 55 = aI σ 55 ∧ aI τ 38 = aI σ 38
theorem Fz.se {σ τ : RS} (h : Fz σ τ) : SE σ τ := ⟨⟨h.1 18 rfl, h.1 36 rfl⟩, ⟨h.2.2.1 19 rfl, h.2.2.1 20 rfl, h.2.2.1 21 rfl, h.2.2.1 81 rfl⟩, h.2.2.1 51 rfl, h.2.2.1 55 rfl, h.2.2.1 38 rfl⟩
theorem SE.sy {σ τ : RS} (h : SE σ τ) : SE τ σ := ⟨⟨h.1.1.symm, h.1.2.symm⟩, ⟨h.2.1.1.symm, h.2.1.2.1.symm, h.2.1.2.2.1.symm, h.2.1.2.2.2.symm⟩, h.2.2.1.symm, h.2.2.2.1.symm, h.2.2.2.2.symm⟩
theorem SE.est {σ τ : RS} (h : SE σ τ) (c : Nat) : st τ c = st σ c := by
  unfold st
  rw [h.2.1.1, h.2.1.2.1]
theorem SE.ezt {σ τ : RS} (h : SE σ τ) (c : Nat) : zt τ c = zt σ c := by
  unfold zt
  rw [h.2.1.1, h.2.1.2.1, h.2.1.2.2.1, h.2.1.2.2.2]
theorem SE.evp {σ τ : RS} (h : SE σ τ) (c : Nat) : vp τ c = vp σ c := by
  unfold vp
  rw [h.est c, h.2.1.1, h.2.2.1, h.2.2.2.1]
theorem SE.gt {σ τ : RS} (h : SE σ τ) {m : Nat} {to : Int32} {u : List (Nat × Nat)} (hg : GT σ m to u) : GT τ m to u := by
  unfold GT
  rw [h.est, h.ezt, h.evp, h.1.1, h.2.2.1, h.2.2.2.1]
  exact hg
theorem SE.tt {σ τ X : RS} (h : SE σ τ) {j b m : Nat} {u : List (Nat × Nat)} {t0 t : Nat} (hT : TT σ X j b m u t0 t) : TT τ X j b m u t0 t := by
  induction u generalizing t with
  | nil => exact hT
  | cons q u ih =>
    obtain ⟨t', e, h1, h2⟩ := hT
    obtain ⟨a1, a2, a3, a4, a5⟩ := h2
    exact ⟨t', e, ih h1, a1, a2, a3, a4, fun q => ⟨(a5 q).1, fun z => ⟨h.gt ((a5 q).2 z).1, by rw [h.evp, h.2.2.2.1]; exact ((a5 q).2 z).2⟩⟩⟩
theorem SE.bl {σ τ X : RS} (h : SE σ τ) {i b t m : Nat} (hB : BL σ X i b t m) : BL τ X i b t m := by
  induction i generalizing b t m with
  | zero =>
    obtain ⟨g1, g2, g3⟩ := hB
    exact ⟨g1, g2, by rw [h.1.2]; exact g3⟩
  | succ i ih =>
    obtain ⟨⟨g1, g2⟩, h', t', m', l, x, r, g3, g4, g5, g6, g7, g8⟩ := hB
    exact ⟨⟨g1, by rw [h.1.2]; exact g2⟩, h', t', m', l, x, r, ih g3, by rw [h.1.1]; exact g4, by rw [h.est, h.ezt]; exact g5, by rw [h.2.2.2.2]; exact g6, g7, h.tt g8⟩
/-- ahead of a code that is run -/
def RA (σ X : RS) : Prop := ∃ i h t0 m l z, (0 ≤ gI X 129 ∧ nT (gI X 129) = i + 1 ∧ i < 30) ∧ BL σ X i h t0 m ∧ ((0 ≤ gI X 141 ∧ nT (gI X 141) ≤ nT (gI σ 18)) ∧ st σ (nT (gI X 141)) = some (l, m) ∧ zt σ (nT (gI X 141)) = some z) ∧ (0 ≤ gI X 128 ∧ nT (gI X 128) = h + wz z) ∧ (0 ≤ gI X 133 ∧ TT σ X (i + 1) h m (trs l) t0 (nT (gI X 133)))
def PG (σ S X : RS) : Prop := nT (gI X 129) < nT (gI S 129) ∨ (nT (gI X 129) = nT (gI S 129) ∧ vp σ (nT (gI S 141) - 1) < vp σ (nT (gI X 141)))
theorem SE.ra {σ τ X : RS} (h : SE σ τ) (hR : RA σ X) : RA τ X := by
  obtain ⟨i, b, t0, m, l, z, g1, g2, g3, g4, g5, g6⟩ := hR
  exact ⟨i, b, t0, m, l, z, g1, h.bl g2, by rw [h.est, h.ezt, h.1.1]; exact g3, g4, g5, h.tt g6⟩
/-- where a call ends -/
def BP (σ : RS) : Prop := RG σ ∧ ∃ i h t m, (0 ≤ gI σ 129 ∧ nT (gI σ 129) = i + 1 ∧ i < 30) ∧ BL σ σ i h t m ∧ (0 ≤ gI σ 128 ∧ nT (gI σ 128) = h) ∧ (0 ≤ gI σ 133 ∧ nT (gI σ 133) = t)
def BQ (σ τ : RS) : Prop := Ry σ τ ∧ (¬ gI τ 142 = 0 ∨ (gI τ 142 = gI σ 142 ∧ RA σ τ ∧ nT (gI τ 129) < nT (gI σ 129)))
theorem BP.st0 {σ : RS} (h : BP σ) : (1 ≤ gI σ 129 ∧ gI σ 129 ≤ 30) ∧ (0 ≤ gI σ 128 ∧ gI σ 128 < 7999) ∧ (0 ≤ aI σ 132 (nT (gI σ 129 - 1)) ∧ aI σ 132 (nT (gI σ 129 - 1)) < 10) := by
  obtain ⟨hG, i, b, t, m, ⟨a1, a2, a3⟩, hB, ⟨c1, c2⟩, d1, d2⟩ := h
  obtain ⟨l1, l2, l3, l4⟩ := hB.le hG
  have m1 := hG.k.j.m
  have m2 : nT (gI σ 36) ≤ 10 := nT_le (y := 10) m1.1 m1.2
  have q1 : 1 ≤ gI σ 129 := (nle (by decide) a1).mpr (by rw [a2]; show 1 ≤ i + 1; omega)
  have e : nT (gI σ 129 - 1) = i := by
    have := nT_sub (x := gI σ 129) (by lia)
    omega
  refine ⟨⟨q1, (nle a1 (by decide)).mpr (by rw [a2]; show i + 1 ≤ 30; omega)⟩, ⟨c1, (nlt c1 (by decide)).mpr (by rw [c2]; show b < 7999; omega)⟩, ?_⟩
  rw [e]
  exact ⟨l4.1, (nlt l4.1 (by decide)).mpr (by rw [l4.2]; show m < 10; omega)⟩
theorem BP.end {σ τ : RS} (hf : Ry σ τ) (h1 : ¬ gI τ 142 = 0) : BQ σ τ := ⟨hf, Or.inl h1⟩
/-- back in the caller -/
theorem BP.on {σ τ : RS} (h : BP σ) (hf : Ry σ τ) (h142 : gI τ 142 = gI σ 142) (h129 : gI τ 129 = gI σ 129 - 1) (hne : ¬ gI σ 129 - 1 = 0) (h141 : gI τ 141 = aI σ 131 (nT (gI σ 129 - 1))) (hy : ∀ k, 134 ≤ k → k ≤ 139 → aI τ k = aI σ k) (h133 : gI τ 133 = gI σ 133)
    (h128 : (aI σ 38 (nT (aI σ 132 (nT (gI σ 129 - 1)))) = 5 ∧ gI τ 128 = gI σ 128) ∨ (¬ aI σ 38 (nT (aI σ 132 (nT (gI σ 129 - 1)))) = 5 ∧ gI τ 128 = gI σ 128 + 1)) : BQ σ τ := by
  have h7 := h.st0
  obtain ⟨hG, i, b, t, m, ⟨a1, a2, a3⟩, hB, ⟨c1, c2⟩, d1, d2⟩ := h
  have e : nT (gI σ 129 - 1) = i := by
    have := nT_sub (x := gI σ 129) (by lia)
    omega
  have e0 : 0 ≤ gI σ 129 - 1 := by lia
  rw [e] at h141 h128
  refine ⟨hf, Or.inr ⟨h142, ?_, by rw [h129, e]; omega⟩⟩
  cases i with
  | zero => exact absurd (nTi e 0 (by decide) (by decide) e0) hne
  | succ i =>
    obtain ⟨⟨⟨g0, g1⟩, g2⟩, h', t', m', l, x, r, g3, g4, g5, g6, g7, g8⟩ := hB
    rw [g1] at h128
    have hY : Yq σ τ t := fun s _ k k1 k2 => by rw [hy k k1 k2]
    refine ⟨i, h', t', m', l, x :: r, ⟨by rw [h129]; exact e0, by rw [h129]; exact e, by omega⟩, g3.eq (fun s _ => ⟨by rw [hf.2.2.1 131 rfl], by rw [hf.2.2.1 132 rfl]⟩) (fun s _ k k1 k2 => by rw [hy k k1 k2]), by rw [h141]; exact ⟨g4, g5⟩, ?_, by rw [h133]; exact d1, ?_⟩
    · rcases g6 with ⟨z1, z2⟩ | ⟨z1, z2⟩
      · subst z2
        rcases h128 with q | q
        · rw [q.2]
          refine ⟨c1, ?_⟩
          rw [c2, g7]
          show _ = h' + ((if (10 : Nat) = 0 ∨ (10 : Nat) = 4 then 1 else 0) + wz r)
          rw [if_neg (by decide)]
          omega
        · exact absurd z1 q.1
      · subst z2
        rcases h128 with q | q
        · exact absurd q.1 z1
        · rw [q.2]
          refine ⟨by lia, ?_⟩
          rw [nT_add c1 (by lia), c2, g7]
          show _ = h' + ((if (0 : Nat) = 0 ∨ (0 : Nat) = 4 then 1 else 0) + wz r)
          rw [if_pos (Or.inl rfl)]
          omega
    · rw [h133, d2]
      exact g8.eq hY
def P_back : RP := fun As σ => match As with
  | [.long v] => BP σ
  | _ => False
def Q_back : RQ := fun As σ w τ => match As with
  | [.long v] => w = none ∧ BQ σ τ
  | _ => False
set_option maxRecDepth 100000 in
set_option maxHeartbeats 4000000 in
theorem m_back (l : Launch) : RMet l 2 148 P_back Q_back := by
  refine RMet.by Bback [(144, P_put, Q_put), (85, P_resultOf, Q_resultOf)] roback okBback (ctc (m_put l) (by decide) (ctc (m_resultOf l) (by decide) ct0)) ?_ ?_
  · intro As σ hP
    unfold P_back at hP
    split at hP
    next => exact Nat.le_of_ble_eq_true rfl
    next => exact hP.elim
  · intro As σ hP G hB hW
    unfold P_back at hP
    split at hP
    next v => 
      unfold Q_back at hB
      dsimp only at hB
      obtain ⟨⟨k1, k2⟩, ⟨k3, k4⟩, k5, k6⟩ := hP.st0
      have k5 : 0 ≤ aI σ 132 (gI σ 129 - 1).toNatClampNeg := k5
      have k6 : aI σ 132 (gI σ 129 - 1).toNatClampNeg < 10 := k6
      apply hB
      dsimp only [rgo, rfd, Bback, Nat.beq, rwp, rst, lv_args, rlk, rs1, rs2, rdl, rky, rct, rcs, rcd, rno, rsw, Value.category, List.filter, List.take, List.drop, List.reverse, List.reverseAux, List.cons_append, List.nil_append, Option.toList, Int.toNat, Int.reduceToNat, if_pos, if_neg, reduceIte, ↓reduceIte, Nat.reduceAdd, Nat.reduceEqDiff, Nat.reduceBEq, beq_self_eq_true, Bool.not_true, Bool.not_false, Bool.and_true, Bool.and_false, Bool.true_and, Bool.false_and, gI_sI, gI_sL, gI_sA, gI_sM, gL_sI, gL_sL, gL_sA, gL_sM, aI_sI, aI_sL, aI_sA, aI_sM, aL_sI, aL_sL, aL_sA, aL_sM, Bback_0, Bback_42, Bback_52, Bback_57, Bback_58, Bback_67, Bback_82, Bback_87, oi_1, oi_10, oi_5, P_put, P_resultOf]; try dsimp only
      refine ⟨rfl, rfl, rfl, (in_132 (by lia) (by lia)), rfl, rfl, rfl, (in_131 (by lia) (by lia)), rfl, rfl, rfl, fun h1 => ?_, fun h1 => ?_⟩
      · apply hB
        dsimp only [rgo, rfd, Bback, Nat.beq, rwp, rst, lv_args, rlk, rs1, rs2, rdl, rky, rct, rcs, rcd, rno, rsw, Value.category, List.filter, List.take, List.drop, List.reverse, List.reverseAux, List.cons_append, List.nil_append, Option.toList, Int.toNat, Int.reduceToNat, if_pos, if_neg, reduceIte, ↓reduceIte, Nat.reduceAdd, Nat.reduceEqDiff, Nat.reduceBEq, beq_self_eq_true, Bool.not_true, Bool.not_false, Bool.and_true, Bool.and_false, Bool.true_and, Bool.false_and, gI_sI, gI_sL, gI_sA, gI_sM, gL_sI, gL_sL, gL_sA, gL_sM, aI_sI, aI_sL, aI_sA, aI_sM, aL_sI, aL_sL, aL_sA, aL_sM, Bback_0, Bback_42, Bback_52, Bback_57, Bback_58, Bback_67, Bback_82, Bback_87, oi_1, oi_10, oi_5, P_put, P_resultOf]; try dsimp only
        refine ⟨rfl, rfl, (by decide), (⟨by lia, by lia⟩), fun w2 τ2 hq2 => ?_⟩
        obtain ⟨r2, rfl, hr2, e2⟩ := hq2
        obtain rfl := e2.symm
        have hr2 : r2 = aI σ 38 (aI σ 132 (gI σ 129 - 1).toNatClampNeg).toNatClampNeg := by rcases hr2 with q | q | q <;> first | exact q.2 | (exfalso; have q1 := q.1; lia)
        dsimp only [Option.toList, List.cons_append, List.nil_append, Nat.beq, gI_sI, gI_sL, gI_sA, gI_sM, gL_sI, gL_sL, gL_sA, gL_sM, aI_sI, aI_sL, aI_sA, aI_sM, aL_sI, aL_sL, aL_sA, aL_sM]
        refine ⟨fun h3 => ?_, fun h3 => ?_⟩
        · apply hB
          dsimp only [rgo, rfd, Bback, Nat.beq, rwp, rst, lv_args, rlk, rs1, rs2, rdl, rky, rct, rcs, rcd, rno, rsw, Value.category, List.filter, List.take, List.drop, List.reverse, List.reverseAux, List.cons_append, List.nil_append, Option.toList, Int.toNat, Int.reduceToNat, if_pos, if_neg, reduceIte, ↓reduceIte, Nat.reduceAdd, Nat.reduceEqDiff, Nat.reduceBEq, beq_self_eq_true, Bool.not_true, Bool.not_false, Bool.and_true, Bool.and_false, Bool.true_and, Bool.false_and, gI_sI, gI_sL, gI_sA, gI_sM, gL_sI, gL_sL, gL_sA, gL_sM, aI_sI, aI_sL, aI_sA, aI_sM, aL_sI, aL_sL, aL_sA, aL_sM, Bback_0, Bback_42, Bback_52, Bback_57, Bback_58, Bback_67, Bback_82, Bback_87, oi_1, oi_10, oi_5, P_put, P_resultOf]; try dsimp only
          exact ⟨rfl, BP.on hP (by (repeat (first | exact Ry.rf | refine Ry.a ?_ rfl | refine Ry.i ?_ rfl | refine Ry.g ?_ rfl | refine Ry.m ?_ rfl))) rfl rfl (by lia) rfl (fun k k1 k2 => rfl) rfl (Or.inl ⟨by show aI σ 38 (aI σ 132 (gI σ 129 - 1).toNatClampNeg).toNatClampNeg = 5; lia, rfl⟩)⟩
        · apply hB
          dsimp only [rgo, rfd, Bback, Nat.beq, rwp, rst, lv_args, rlk, rs1, rs2, rdl, rky, rct, rcs, rcd, rno, rsw, Value.category, List.filter, List.take, List.drop, List.reverse, List.reverseAux, List.cons_append, List.nil_append, Option.toList, Int.toNat, Int.reduceToNat, if_pos, if_neg, reduceIte, ↓reduceIte, Nat.reduceAdd, Nat.reduceEqDiff, Nat.reduceBEq, beq_self_eq_true, Bool.not_true, Bool.not_false, Bool.and_true, Bool.and_false, Bool.true_and, Bool.false_and, gI_sI, gI_sL, gI_sA, gI_sM, gL_sI, gL_sL, gL_sA, gL_sM, aI_sI, aI_sL, aI_sA, aI_sM, aL_sI, aL_sL, aL_sA, aL_sM, Bback_0, Bback_42, Bback_52, Bback_57, Bback_58, Bback_67, Bback_82, Bback_87, oi_1, oi_10, oi_5, P_put, P_resultOf]; try dsimp only
          refine ⟨rfl, (by decide), (⟨by lia, by lia⟩), fun w4 τ4 hq4 => ?_⟩
          obtain ⟨rfl, f4, e4⟩ := hq4
          obtain rfl := e4.symm
          dsimp only [Option.toList, List.cons_append, List.nil_append, Nat.beq, gI_sI, gI_sL, gI_sA, gI_sM, gL_sI, gL_sL, gL_sA, gL_sM, aI_sI, aI_sL, aI_sA, aI_sM, aL_sI, aL_sL, aL_sA, aL_sM]
          apply hB
          dsimp only [rgo, rfd, Bback, Nat.beq, rwp, rst, lv_args, rlk, rs1, rs2, rdl, rky, rct, rcs, rcd, rno, rsw, Value.category, List.filter, List.take, List.drop, List.reverse, List.reverseAux, List.cons_append, List.nil_append, Option.toList, Int.toNat, Int.reduceToNat, if_pos, if_neg, reduceIte, ↓reduceIte, Nat.reduceAdd, Nat.reduceEqDiff, Nat.reduceBEq, beq_self_eq_true, Bool.not_true, Bool.not_false, Bool.and_true, Bool.and_false, Bool.true_and, Bool.false_and, gI_sI, gI_sL, gI_sA, gI_sM, gL_sI, gL_sL, gL_sA, gL_sM, aI_sI, aI_sL, aI_sA, aI_sM, aL_sI, aL_sL, aL_sA, aL_sM, Bback_0, Bback_42, Bback_52, Bback_57, Bback_58, Bback_67, Bback_82, Bback_87, oi_1, oi_10, oi_5, P_put, P_resultOf]; try dsimp only
          exact ⟨rfl, BP.on hP (by (repeat (first | exact Ry.rf | refine Ry.a ?_ rfl | refine Ry.i ?_ rfl | refine Ry.g ?_ rfl | refine Ry.m ?_ rfl))) rfl rfl (by lia) rfl (fun k k1 k2 => rfl) rfl (Or.inr ⟨fun q => absurd (show aI σ 38 (aI σ 132 (gI σ 129 - 1).toNatClampNeg).toNatClampNeg = 5 from q) (by lia), rfl⟩)⟩
      · apply hB
        dsimp only [rgo, rfd, Bback, Nat.beq, rwp, rst, lv_args, rlk, rs1, rs2, rdl, rky, rct, rcs, rcd, rno, rsw, Value.category, List.filter, List.take, List.drop, List.reverse, List.reverseAux, List.cons_append, List.nil_append, Option.toList, Int.toNat, Int.reduceToNat, if_pos, if_neg, reduceIte, ↓reduceIte, Nat.reduceAdd, Nat.reduceEqDiff, Nat.reduceBEq, beq_self_eq_true, Bool.not_true, Bool.not_false, Bool.and_true, Bool.and_false, Bool.true_and, Bool.false_and, gI_sI, gI_sL, gI_sA, gI_sM, gL_sI, gL_sL, gL_sA, gL_sM, aI_sI, aI_sL, aI_sA, aI_sM, aL_sI, aL_sL, aL_sA, aL_sM, Bback_0, Bback_42, Bback_52, Bback_57, Bback_58, Bback_67, Bback_82, Bback_87, oi_1, oi_10, oi_5, P_put, P_resultOf]; try dsimp only
        refine ⟨rfl, (by decide), (⟨by lia, by lia⟩), fun w5 τ5 hq5 => ?_⟩
        obtain ⟨r5, rfl, hr5, e5⟩ := hq5
        obtain rfl := e5.symm
        have hr5 : r5 = aI σ 38 (aI σ 132 (gI σ 129 - 1).toNatClampNeg).toNatClampNeg := by rcases hr5 with q | q | q <;> first | exact q.2 | (exfalso; have q1 := q.1; lia)
        dsimp only [Option.toList, List.cons_append, List.nil_append, Nat.beq, gI_sI, gI_sL, gI_sA, gI_sM, gL_sI, gL_sL, gL_sA, gL_sM, aI_sI, aI_sL, aI_sA, aI_sM, aL_sI, aL_sL, aL_sA, aL_sM]
        refine ⟨fun h6 => ?_, fun h6 => ?_⟩
        · apply hB
          dsimp only [rgo, rfd, Bback, Nat.beq, rwp, rst, lv_args, rlk, rs1, rs2, rdl, rky, rct, rcs, rcd, rno, rsw, Value.category, List.filter, List.take, List.drop, List.reverse, List.reverseAux, List.cons_append, List.nil_append, Option.toList, Int.toNat, Int.reduceToNat, if_pos, if_neg, reduceIte, ↓reduceIte, Nat.reduceAdd, Nat.reduceEqDiff, Nat.reduceBEq, beq_self_eq_true, Bool.not_true, Bool.not_false, Bool.and_true, Bool.and_false, Bool.true_and, Bool.false_and, gI_sI, gI_sL, gI_sA, gI_sM, gL_sI, gL_sL, gL_sA, gL_sM, aI_sI, aI_sL, aI_sA, aI_sM, aL_sI, aL_sL, aL_sA, aL_sM, Bback_0, Bback_42, Bback_52, Bback_57, Bback_58, Bback_67, Bback_82, Bback_87, oi_1, oi_10, oi_5, P_put, P_resultOf]; try dsimp only
          apply hB
          dsimp only [rgo, rfd, Bback, Nat.beq, rwp, rst, lv_args, rlk, rs1, rs2, rdl, rky, rct, rcs, rcd, rno, rsw, Value.category, List.filter, List.take, List.drop, List.reverse, List.reverseAux, List.cons_append, List.nil_append, Option.toList, Int.toNat, Int.reduceToNat, if_pos, if_neg, reduceIte, ↓reduceIte, Nat.reduceAdd, Nat.reduceEqDiff, Nat.reduceBEq, beq_self_eq_true, Bool.not_true, Bool.not_false, Bool.and_true, Bool.and_false, Bool.true_and, Bool.false_and, gI_sI, gI_sL, gI_sA, gI_sM, gL_sI, gL_sL, gL_sA, gL_sM, aI_sI, aI_sL, aI_sA, aI_sM, aL_sI, aL_sL, aL_sA, aL_sM, Bback_0, Bback_42, Bback_52, Bback_57, Bback_58, Bback_67, Bback_82, Bback_87, oi_1, oi_10, oi_5, P_put, P_resultOf]; try dsimp only
          refine ⟨rfl, rfl, ?_⟩
          exact ⟨rfl, BP.end (by (repeat (first | exact Ry.rf | refine Ry.a ?_ rfl | refine Ry.i ?_ rfl | refine Ry.g ?_ rfl | refine Ry.m ?_ rfl))) (by first | exact (show ¬ (1 : Int32) = 0 by decide) | exact (show ¬ (10 : Int32) = 0 by decide))⟩
        · apply hB
          dsimp only [rgo, rfd, Bback, Nat.beq, rwp, rst, lv_args, rlk, rs1, rs2, rdl, rky, rct, rcs, rcd, rno, rsw, Value.category, List.filter, List.take, List.drop, List.reverse, List.reverseAux, List.cons_append, List.nil_append, Option.toList, Int.toNat, Int.reduceToNat, if_pos, if_neg, reduceIte, ↓reduceIte, Nat.reduceAdd, Nat.reduceEqDiff, Nat.reduceBEq, beq_self_eq_true, Bool.not_true, Bool.not_false, Bool.and_true, Bool.and_false, Bool.true_and, Bool.false_and, gI_sI, gI_sL, gI_sA, gI_sM, gL_sI, gL_sL, gL_sA, gL_sM, aI_sI, aI_sL, aI_sA, aI_sM, aL_sI, aL_sL, aL_sA, aL_sM, Bback_0, Bback_42, Bback_52, Bback_57, Bback_58, Bback_67, Bback_82, Bback_87, oi_1, oi_10, oi_5, P_put, P_resultOf]; try dsimp only
          apply hB
          dsimp only [rgo, rfd, Bback, Nat.beq, rwp, rst, lv_args, rlk, rs1, rs2, rdl, rky, rct, rcs, rcd, rno, rsw, Value.category, List.filter, List.take, List.drop, List.reverse, List.reverseAux, List.cons_append, List.nil_append, Option.toList, Int.toNat, Int.reduceToNat, if_pos, if_neg, reduceIte, ↓reduceIte, Nat.reduceAdd, Nat.reduceEqDiff, Nat.reduceBEq, beq_self_eq_true, Bool.not_true, Bool.not_false, Bool.and_true, Bool.and_false, Bool.true_and, Bool.false_and, gI_sI, gI_sL, gI_sA, gI_sM, gL_sI, gL_sL, gL_sA, gL_sM, aI_sI, aI_sL, aI_sA, aI_sM, aL_sI, aL_sL, aL_sA, aL_sM, Bback_0, Bback_42, Bback_52, Bback_57, Bback_58, Bback_67, Bback_82, Bback_87, oi_1, oi_10, oi_5, P_put, P_resultOf]; try dsimp only
          refine ⟨rfl, rfl, ?_⟩
          exact ⟨rfl, BP.end (by (repeat (first | exact Ry.rf | refine Ry.a ?_ rfl | refine Ry.i ?_ rfl | refine Ry.g ?_ rfl | refine Ry.m ?_ rfl))) (by first | exact (show ¬ (1 : Int32) = 0 by decide) | exact (show ¬ (10 : Int32) = 0 by decide))⟩
    next => exact hP.elim
