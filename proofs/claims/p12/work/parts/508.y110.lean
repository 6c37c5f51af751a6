/-! all that the class's judge asks of what is read -/
def PuJ (N : Int → Int) (s : SpC) (z : ZS) : Prop :=
  ((∀ i T, i ≤ xnM z → tbT (CzT N z (msM N koY kiY z.1)) (fun i => xth z i) i = some T → TyP z T i) ∧ ∀ T, tbT (CzT N z (msM N koY kiY z.1)) (fun i => xth z i) (xnM z) = some T → WfS z T ∧ UpS z ∧ SxS z) ∧
  ((∀ j, j < snM z → kjS z j = 61 → ∃ l, RwZ z (bjS z j) l ∧ l.Nodup) ∧ (∀ j, j < snM z → kjS z j = 66 → 0 ≤ ljS z j ∧ ∃ m, msM N koY kiY z.1 (ljS z j).toNat = some m) ∧ ∀ j, j < snM z → tjT N z j < (snM z : Int)) ∧
  ((∀ i, i < xnM z → (xth z i).1.1 = 10 → (xth z i).2.2.1.2.1 = (xth z i).2.2.2.headD (-1)) ∧ (∀ i, i < xnM z → (xth z i).1.1 = 10 → 0 ≤ (xth z i).1.2.2.1) ∧ ∀ i, i < xnM z → (xth z i).1.1 = 10 → (xth z i).2.2.2.length ≤ 500) ∧
  ((∀ k, k < (zMs z.1).length → 0 ≤ V1W N s k ∧ V1W N s k ≤ 1000) ∧ (snM z ≤ 100000 ∧ xnM z ≤ 100000) ∧ (zMs z.1).length ≤ 10)
theorem xc_le : ∀ {l : List ItZ}, xcZ l ≤ l.length := by
  intro l
  induction l with
  | nil => exact Nat.le_refl _
  | cons w l ih =>
    cases w with
    | inl x => exact Nat.succ_le_succ ih
    | inr y => exact Nat.le_succ_of_le ih
theorem pu_of {N : Int → Int} {σ : RS} {s : SpC} {z : ZS} (h : RdB N σ s z) : PuJ N s z := by
  obtain ⟨L, hL, _, P⟩ := h.1.pd
  have up := h.1.up
  have nm := h.1.nm
  have sj := sj_all (nm := (zMs z.1).length) P hL
  have g18 := g18_of h.1.2.1
  have b18 := h.1.2.2.1.2
  have tb : ∀ i, tbT (CzT N z (msM N koY kiY z.1)) (fun i => xth z i) i = tbT (CxR N z) (fun i => xth z i) i := fun i => tb_cg ce_zx i
  have jd := jd_i (C := CxR N z) (z := z) h.1.sk (fun i hi => h.1.kx hi) (fun i hi => h.1.sg hi) (fun i hi k => h.1.va hi k) (vv_of h.1.2.1) (my_of h.1.tm)
  have ty : ∀ i T, i ≤ xnM z → tbT (CzT N z (msM N koY kiY z.1)) (fun i => xth z i) i = some T → TyP z T i := fun i T hi hT k hk k10 e => by
    rw [tb] at hT
    have v := (jd i hi T hT).2 k hk k10
    have v := v.1.1
    omega
  have kx10 : ∀ i, i < xnM z → (xth z i).1.1 = 10 → (xth z i).2.2.1.2.1 = (xth z i).2.2.2.headD (-1) ∧ 0 ≤ (xth z i).1.2.2.1 := by
    obtain ⟨⟨h1, hz, h3⟩, _⟩ := h.1
    have h0 := h1.1
    intro i hi k
    rw [hz] at hi k ⊢
    exact ((xs_pr (N := N) (f := 11) (z := z0S s) (by show 0 ≤ zAt s; omega) rfl).2 i hi).2 k
  have ms := h.1.2.1.ms
  have m10 : (zMs z.1).length ≤ 10 := by
    have l := Int32.le_iff_toInt_le.mp ms.1.2
    have l : (gI σ 36).toInt ≤ 10 := l
    have n := (nt_pos ms.1.1).1
    omega
  have a500 : zAt z.1 ≤ 500 := by
    obtain ⟨_, ⟨⟨_, ⟨a1, a2, a3, a4⟩, _⟩, _⟩, _⟩ := h.1.2.1
    have a4 := Int32.le_iff_toInt_le.mp a4
    have a4 : (gI σ 14).toInt ≤ 500 := a4
    omega
  refine ⟨⟨ty, fun T hT => ⟨fun j hj => ?_, up.1, ?_⟩⟩, ⟨fun j hj k => (sj.2 j hj).2.2.1 k, fun j hj k => ?_, fun j hj => ?_⟩, ⟨fun i hi k => (kx10 i hi k).1, fun i hi k => (kx10 i hi k).2, fun i hi k => ?_⟩, fun k hk => ?_, ⟨by omega, ?_⟩, m10⟩
  · have w : lkW (snM z) (reS z j) := by
      obtain ⟨⟨h1, hz, h3⟩, _⟩ := h.1
      rw [hz] at hj h3 ⊢
      exact wl_pr (N := N) (f := 11) (z := z0S s) rfl (by show (-1 : Int) < 0; decide) h3 j hj
    obtain ⟨s1, s2, s3, s4⟩ := sj.2 j hj
    refine ⟨⟨up.2 j hj, w.1, w.2.1, w.2.2.1, w.2.2.2⟩, fun q => ?_, s2⟩
    have s1 := s1 q
    exact ⟨s1.1, ty (xnM z) T (Nat.le_refl _) hT _ (by omega) s1.2⟩
  · obtain ⟨⟨h1, hz, h3⟩, _⟩ := h.1
    have h0 := h1.1
    rw [hz]
    exact sx_pr (by omega) h1.2.2.2
  · have q := (sj.2 j hj).2.2.2 k
    refine ⟨q.1, (ms_some h.1.2.1).mpr (Or.inl ?_)⟩
    omega
  · unfold tjT
    have pj := up.2 j hj
    exact (tg_ag (N := N) (f := reS z) (g := reS z) (on := decide (kjS z j = 65)) (t := ljS z j) (m := snM z) (fun _ _ => ⟨rfl, fun _ => rfl⟩) (fun i hi => up.2 i hi) (snM z) (snM z) (paS z j) (by omega) (by omega) (by omega)).2
  · obtain ⟨x, l, h1, _, h3⟩ := xg_ex (L := z.2.1) hi
    rw [show xth z i = x from h3] at k ⊢
    have p := ((h.1.rp.1 x (h1.subset List.mem_cons_self)).2.2.2.1 k).2
    omega
  · have v := h.2 k (by omega)
    have w := (h.1.2.2.1.1 k (by omega)).1
    have u := ms.2.2 k (by omega)
    have b := h.1.2.1.vs
    have n40 : ((nT (aI σ 40 k) : Nat) : Int) = (aI σ 40 k).toInt := Int.toNat_of_nonneg w.1
    have n42 : nT (gI σ 42) ≤ 60 := by
      show (gI σ 42).toInt.toNat ≤ 60
      omega
    omega
  · have x := xc_le (l := z.2.1)
    have x : xnM z ≤ z.2.1.length := x
    omega
