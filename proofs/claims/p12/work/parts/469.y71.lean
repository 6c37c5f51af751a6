/-! what is read, in the reference: variables are found as they are known -/
def CxM (Nv : Int → Int) (s : SpC) (ms : MfT) : CxT := (Nv, fun v => ((vrL (zVs s) v).2.1, (vrL (zVs s) v).2.2.1), (zVs s).length, ms)
def RdW (N : Int → Int) (σ : RS) (z : ZS) : Prop := MZ N σ z ∧ MhR σ z.1 ∧ KvP N z
theorem tk_80 {k w : Int} (h : tkR k w 80) : k = 1 := by
  rcases h with h | h | h | h | h | ⟨_, h1, h2, h3⟩ | ⟨_, h⟩
  · omega
  · omega
  · exact h.1
  · omega
  · omega
  · have := wdR_b.mp ⟨h1, h2⟩
    omega
  · have := sgT_rg _ h
    have this : 0 ≤ (80 : Int) ∧ (80 : Int) ≤ 42 := this
    omega
theorem vr_vl {σ : RS} : ∀ (n u : Nat), u < n → vrL (vlR σ n) u = ((aI σ 43 u).toInt, (aI σ 44 u).toInt, (aI σ 45 u).toInt, (aI σ 46 u).toInt) := by
  have len : ∀ n, (vlR σ n).length = n := fun n => by
    induction n with
    | zero => rfl
    | succ n ih => rw [vlR, List.length_cons, ih]
  intro n
  induction n with
  | zero => exact fun u h => absurd h (Nat.not_lt_zero _)
  | succ n ih =>
    intro u h
    rw [vlR, vrL, len]
    by_cases e : u = n
    · rw [if_pos e, e]
    · rw [if_neg e]
      exact ih u (by omega)
theorem nt_pos {v : Int32} (h : 0 ≤ v) : (v.toInt : Int) = (nT v : Int) ∧ v.toNatClampNeg = nT v := by
  have h := Int32.le_iff_toInt_le.mp h
  have h : 0 ≤ v.toInt := h
  have e : v.toNatClampNeg = v.toInt.toNat := rfl
  constructor
  · show v.toInt = ((v.toNatClampNeg : Nat) : Int)
    rw [e]
    omega
  · rfl
section
variable {N : Int → Int} {σ : RS} {z : ZS} {Y : RS} {Nv : Int → Int} {ms : MfT}
theorem RdW.vs (R : RdW N σ z) : (gI σ 42).toInt = (vnW z : Int) ∧ vnW z ≤ 60 ∧ ∀ u, u < vnW z → vrL (zVs z.1) u = ((aI σ 43 u).toInt, (aI σ 44 u).toInt, (aI σ 45 u).toInt, (aI σ 46 u).toInt) := by
  obtain ⟨_, ⟨_, _, ⟨hv, h0, h60⟩, _⟩, _⟩ := R
  have len : ∀ n, (vlR σ n).length = n := fun n => by
    induction n with
    | zero => rfl
    | succ n ih => rw [vlR, List.length_cons, ih]
  have e : vnW z = nT (gI σ 42) := by
    unfold vnW
    rw [hv, len]
  have n42 := (nt_pos h0).1
  have l60 := Int32.le_iff_toInt_le.mp h60
  have l60 : (gI σ 42).toInt ≤ 60 := l60
  refine ⟨by rw [e]; exact n42, by omega, fun u hu => ?_⟩
  rw [hv]
  exact vr_vl _ u (by omega)
/-- a token of a NAME -/
theorem RdW.tk (R : RdW N σ z) {q : Int} (h0 : 0 ≤ q) (h1 : q < zAt z.1) (h2 : zK z.1 q.toNat = 80) : q.toNat < nT (gI σ 2) ∧ q.toNat ≤ 500 ∧ aI σ 3 q.toNat = 1 := by
  obtain ⟨_, ⟨⟨_, ⟨a1, a2, a3, a4⟩, a5, _⟩, _⟩, _⟩ := R
  have n14 := (nt_pos a2).1
  have a3 := Int32.lt_iff_toInt_lt.mp a3
  have a4 := Int32.le_iff_toInt_le.mp a4
  have a4 : (gI σ 14).toInt ≤ 500 := a4
  have p2 : 0 ≤ gI σ 2 := Int32.le_iff_toInt_le.mpr (by show (0 : Int) ≤ _; omega)
  have n2 := (nt_pos p2).1
  have q1 : q.toNat < nT (gI σ 2) := by omega
  have t := (a5 q.toNat q1 (by omega)).1
  rw [h2] at t
  exact ⟨q1, by omega, i32_lit (tk_80 t)⟩
theorem vis_k (R : RdW N σ z) (hY : JfR (sI σ 68 1) Y) {m q : Int} {t : Int32} (ht : t.toInt = q) (h0 : 0 ≤ q) (h1 : q < zAt z.1) (h2 : zK z.1 q.toNat = 80) (h89 : (gI Y 89).toInt = m) {u : Nat} (hu : u < vnW z) : VkR Y t u ↔ VisW N z m q u := by
  have aa : ∀ k, bJ k = false → aI Y k = aI σ k := fun k hk => hY.2.2.1 k hk
  obtain ⟨v1, v2, v3⟩ := R.vs
  obtain ⟨k1, k2, k3, k4, k5⟩ := id R.2.2
  obtain ⟨b1, b2, b3, _⟩ := k3 u hu
  have tq := R.tk h0 h1 h2
  have tv := R.tk b2 b1.1 b3
  have ez := R.1.2.2.1 u (by
    have := (nt_pos R.2.1.2.2.1.2.1).1
    omega)
  have ez := (ez.2 (fun ⟨p, hp, _⟩ => absurd hp List.not_mem_nil)).2
  have ez : (aI σ 48 u).toInt = enW z u := ez
  have nm := R.1.2.2.2.1.2
  have e := v3 u hu
  unfold VkR VisW
  rw [aa 46 rfl, aa 43 rfl, aa 48 rfl, e, k2]
  have qn : ((q.toNat : Nat) : Int) = q := Int.toNat_of_nonneg h0
  have tn : t.toNatClampNeg = q.toNat := nT_x (ht.trans qn.symm)
  have un : (aI σ 43 u).toNatClampNeg = (vrL (zVs z.1) u).1.toNat := by
    refine nT_x ?_
    rw [e] at b2 ⊢
    show (aI σ 43 u).toInt = (((aI σ 43 u).toInt).toNat : Int)
    have b2 : 0 ≤ (aI σ 43 u).toInt := b2
    omega
  have sm : sameR Y (aI σ 43 u).toNatClampNeg t.toNatClampNeg ↔ N (aI σ 43 u).toInt = N q := by
    unfold sameR
    rw [hY.2.2.2 7 (by decide) (by decide) (by decide) (by decide), aa 8 rfl, aa 5 rfl, tn, un]
    have r := nm (vrL (zVs z.1) u).1.toNat q.toNat tv.1 tq.1 tv.2.1 tq.2.1 tv.2.2 tq.2.2
    have e1 : ((((vrL (zVs z.1) u).1.toNat : Nat)) : Int) = (aI σ 43 u).toInt := by
      rw [e] at b2 ⊢
      show (((aI σ 43 u).toInt).toNat : Int) = _
      have b2 : 0 ≤ (aI σ 43 u).toInt := b2
      omega
    rw [e1, qn] at r
    exact r
  rw [sm]
  have c1 : aI σ 46 u = gI Y 89 ↔ (aI σ 46 u).toInt = m := by
    rw [← h89]
    exact Int32.toInt_inj.symm
  have c2 : aI σ 43 u < t ↔ (aI σ 43 u).toInt < q := by
    rw [← ht]
    exact Int32.lt_iff_toInt_lt
  have c3 : t ≤ aI σ 48 u ↔ q ≤ enW z u := by
    rw [← ht, ← ez]
    exact Int32.le_iff_toInt_le
  rw [c1, c2, c3]
  constructor
  · rintro ⟨x1, x2, x3, x4⟩
    exact ⟨x1, x2, Or.inr x3, x4⟩
  · rintro ⟨x1, x2, x3, x4⟩
    exact ⟨x1, x2, x3.resolve_left (fun ⟨p, hp, _⟩ => absurd hp List.not_mem_nil), x4⟩
/-- variables: of the reference, of what is read -/
theorem RdW.vt (R : RdW N σ z) (hY : JfR (sI σ 68 1) Y) {v : Int} (h0 : 0 ≤ v) (h1 : v < (vnW z : Int)) : knT (CxM Nv z.1 ms) v ∧ (aI Y 44 v.toNat).toInt = (vtT (CxM Nv z.1 ms) v).1 ∧ (¬ aI Y 45 v.toNat = 0 ↔ ¬ (vtT (CxM Nv z.1 ms) v).2 = 0) ∧ 0 ≤ (vtT (CxM Nv z.1 ms) v).1 ∧ (vtT (CxM Nv z.1 ms) v).1 ≤ 4 := by
  obtain ⟨v1, v2, v3⟩ := R.vs
  have e := v3 v.toNat (by omega)
  have b := (R.2.2.2.2.1 v.toNat (by omega)).2.2.2
  have aa : ∀ k, bJ k = false → aI Y k = aI σ k := fun k hk => hY.2.2.1 k hk
  refine ⟨⟨h0, h1⟩, ?_, ?_, b.1, b.2⟩
  · rw [aa 44 rfl]
    show _ = (vrL (zVs z.1) v.toNat).2.1
    rw [e]
  · rw [aa 45 rfl]
    show _ ↔ ¬ (vrL (zVs z.1) v.toNat).2.2.1 = 0
    rw [e]
    exact not_congr ⟨fun q => by rw [q]; rfl, fun q => i32_lit q⟩
/-- find -/
theorem fd_ok (R : RdW N σ z) {x : XrZ} {l : List ItZ} (hs : (.inl x :: l) <:+ z.2.1) (hx : NvI x) (hY : JfR (sI σ 68 1) Y) {t : Int32} (ht : t.toInt = x.2.1.1) (h89 : (gI Y 89).toInt = (mdZ l : Int)) : 0 ≤ (gI Y 42).toInt ∧ (∀ r, FdR Y t r → r = x.2.1.2.1 ∨ (r < 0 ∧ x.2.1.2.1 < 0)) ∧ (0 ≤ x.2.1.2.1 → knT (CxM Nv z.1 ms) x.2.1.2.1) ∧ (knT (CxM Nv z.1 ms) x.2.1.2.1 → (aI Y 44 x.2.1.2.1.toNat).toInt = (vtT (CxM Nv z.1 ms) x.2.1.2.1).1 ∧ (¬ aI Y 45 x.2.1.2.1.toNat = 0 ↔ ¬ (vtT (CxM Nv z.1 ms) x.2.1.2.1).2 = 0) ∧ 0 ≤ (vtT (CxM Nv z.1 ms) x.2.1.2.1).1 ∧ (vtT (CxM Nv z.1 ms) x.2.1.2.1).1 ≤ 4) := by
  obtain ⟨v1, v2, v3⟩ := R.vs
  obtain ⟨⟨i1, i2, i3⟩, l1, l2, l3⟩ := R.2.2.2.2.2.1.1 x l hs hx
  have e42 : gI Y 42 = gI σ 42 := hY.1 42 (by decide) (by decide) (by decide) (by decide) (by decide) (by decide)
  have vis : ∀ u, u < vnW z → (VkR Y t u ↔ VisW N z (mdZ l) x.2.1.1 u) := fun u hu => vis_k R hY ht i2 i1 i3 h89 hu
  refine ⟨by rw [e42]; omega, fun r hr => ?_, fun h => ⟨h, (l2 h).1⟩, fun h => (R.vt hY h.1 h.2).2⟩
  rcases hr with ⟨r0, r1, r2, r3⟩ | ⟨r0, r1⟩
  · rw [e42, v1] at r1
    refine Or.inl ?_
    rcases Int.lt_trichotomy x.2.1.2.1 r with q | q | q
    · exact absurd ((vis r.toNat (by omega)).mp r2) (l3 r.toNat (by omega) (by omega))
    · exact q.symm
    · have v0 : 0 ≤ x.2.1.2.1 := by omega
      obtain ⟨m1, m2⟩ := l2 v0
      exact absurd ((vis x.2.1.2.1.toNat (by omega)).mpr m2) (r3 x.2.1.2.1.toNat (by omega) (by rw [e42]; omega))
  · refine Or.inr ⟨by omega, ?_⟩
    by_cases v0 : x.2.1.2.1 < 0
    · exact v0
    · obtain ⟨m1, m2⟩ := l2 (by omega)
      exact absurd ((vis x.2.1.2.1.toNat (by omega)).mpr m2) (r1 x.2.1.2.1.toNat (by rw [e42]; omega))
/-- a variable whose NAME was known already -/
theorem cl_ok (R : RdW N σ z) (hY : JfR (sI σ 68 1) Y) {v : Nat} (hv : v < vnW z) (h89 : gI Y 89 = aI Y 46 v) {r : Int} (hr : FdR Y (aI Y 43 v) r) : 0 ≤ r ↔ clW z v = 1 := by
  obtain ⟨v1, v2, v3⟩ := R.vs
  obtain ⟨w, w1, l1, l2, l3⟩ := R.2.2.2.2.2.1.2 v hv
  obtain ⟨b1, b2, b3, _⟩ := R.2.2.2.2.1 v hv
  have e := v3 v hv
  have aa : ∀ k, bJ k = false → aI Y k = aI σ k := fun k hk => hY.2.2.1 k hk
  have e42 : gI Y 42 = gI σ 42 := hY.1 42 (by decide) (by decide) (by decide) (by decide) (by decide) (by decide)
  have vis : ∀ u, u < vnW z → (VkR Y (aI Y 43 v) u ↔ VisW N z (vrL (zVs z.1) v).2.2.2 (vrL (zVs z.1) v).1 u) := fun u hu => vis_k R hY (by rw [aa 43 rfl, e]) b2 b1.1 b3 (by rw [h89, aa 46 rfl, e]) hu
  rw [← w1]
  rcases hr with ⟨r0, r1, r2, r3⟩ | ⟨r0, r1⟩
  · rw [e42, v1] at r1
    refine iff_of_true r0 ?_
    by_cases q : w < 0
    · exact absurd ((vis r.toNat (by omega)).mp r2) (l3 r.toNat (by omega) (by omega))
    · omega
  · refine iff_of_false (by omega) (fun v0 => ?_)
    obtain ⟨m1, m2⟩ := l2 v0
    exact absurd ((vis w.toNat (by omega)).mpr m2) (r1 w.toNat (by rw [e42]; omega))
end
