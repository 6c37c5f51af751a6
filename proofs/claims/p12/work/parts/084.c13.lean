/-! where methods stand -/
theorem TpY.g {o : Nat} {s t : SpC} (h : TpY o s) (np : NpY s t) (lp : LpY s t) : TpY o t := by
  obtain ⟨n, h1, h2⟩ := h
  refine ⟨n, by rw [lp.1]; exact h1, ?_⟩
  unfold zF at h2 ⊢
  rw [np.1]
  exact h2
theorem ReC.ml {σ : CsC} {r : Nat} {s : SpC} {ty : Int} (_e : ReC σ r (metY ty s)) : (zMs (metY ty s)).length = (zMs s).length + 1 := List.length_cons ..
theorem ReC.ga {σ : CsC} {r : Nat} {s : SpC} (_e : ReC σ r (accY s)) : (zMs (accY s)).length = (zMs s).length := (gl_acc s).1
theorem zf_par {s : SpC} : zF (parY s) = zF s := by unfold zF; rw [(gn_par s).1]
theorem ite_w {p p' : Prop} {a a' b b' : SpC} [Decidable p] [Decidable p'] {F : List (Nat × Nat)} (e : p = p') (ha : a = wxY F a') (hb : b = wxY F b') : (if p then a else b) = wxY F (if p' then a' else b') := by
  subst e
  rcases Decidable.em p with h | h
  · rw [if_pos h, if_pos h]; exact ha
  · rw [if_neg h, if_neg h]; exact hb
theorem wx_rai {F : List (Nat × Nat)} {n : Int} {s : SpC} : raiY n (wxY F s) = wxY F (raiY n s) := by
  unfold raiY
  exact ite_w rfl rfl rfl
theorem wx_acc {F : List (Nat × Nat)} {s : SpC} : accY (wxY F s) = wxY F (accY s) := by
  unfold accY
  exact ite_w rfl wx_rai (ite_w rfl rfl rfl)
theorem wx_xp {F : List (Nat × Nat)} {c : Int} {s : SpC} : xpY c (wxY F s) = wxY F (xpY c s) := by
  unfold xpY
  exact ite_w rfl wx_acc wx_rai
theorem wx_typ {F : List (Nat × Nat)} {s : SpC} : typY (wxY F s) = wxY F (typY s) := by
  unfold typY
  exact ite_w rfl wx_acc wx_rai
theorem wx_dc1 {F : List (Nat × Nat)} {h : Int} {s : SpC} : dc1Y h (wxY F s) = wxY F (dc1Y h s) := by
  unfold dc1Y
  exact ite_w rfl (ite_w rfl wx_rai rfl) wx_rai
theorem wx_dc2 {F : List (Nat × Nat)} {ty f : Int} {s : SpC} : dc2Y ty f (wxY F s) = wxY F (dc2Y ty f s) := by
  unfold dc2Y
  exact ite_w rfl (wx_acc (s := vadY ty f s)) rfl
theorem wx_dcl {F : List (Nat × Nat)} {ty f h : Int} {s : SpC} : dclY ty f h (wxY F s) = wxY F (dclY ty f h s) := by
  unfold dclY
  rw [wx_dc1, wx_dc2]
theorem wx_pad {F : List (Nat × Nat)} {ty : Int} {s : SpC} : padY ty (wxY F s) = wxY F (padY ty s) := rfl
theorem wx_pa2 {F : List (Nat × Nat)} {i : Nat} {ty f : Int} {s : SpC} : pa2Y i ty f (wxY F s) = wxY F (pa2Y i ty f s) := by
  unfold pa2Y
  exact ite_w rfl (by rw [wx_dcl, wx_pad]) wx_dcl
theorem wx_pa1 {F : List (Nat × Nat)} {i : Nat} {s : SpC} : pa1Y i (wxY F s) = wxY F (pa1Y i s) := by
  unfold pa1Y
  refine ite_w rfl ?_ ?_
  · rw [wx_acc, wx_typ]
    exact wx_pa2
  · rw [wx_typ]
    exact wx_pa2
theorem wx_pal {F : List (Nat × Nat)} : ∀ (f i : Nat) (s : SpC), palY f i (wxY F s) = wxY F (palY f i s) := by
  intro f
  induction f with
  | zero => exact fun _ _ => rfl
  | succ f ih =>
    intro i s
    rw [palY, palY, wx_pa1]
    refine ite_w rfl ?_ rfl
    rw [wx_acc, ih]
theorem wx_pa3 {F : List (Nat × Nat)} {s : SpC} : pa3Y (wxY F s) = wxY F (pa3Y s) := by
  unfold pa3Y
  exact ite_w rfl rfl (wx_pal 7 0 s)
theorem wx_par {F : List (Nat × Nat)} {s : SpC} : parY (wxY F s) = wxY F (parY s) := by
  unfold parY
  rw [wx_xp, wx_pa3, wx_xp]
theorem ReC.n_xp {σ : CsC} {r : Nat} {s0 s : SpC} {c : Int} (_e : ReC σ r (xpY c s)) (h : NpY s0 s) : NpY s0 (xpY c s) := h.tr (gn_xp s)
theorem ReC.l_xp {σ : CsC} {r : Nat} {s0 s : SpC} {c : Int} (_e : ReC σ r (xpY c s)) (h : LpY s0 s) : LpY s0 (xpY c s) := h.tr (gl_xp s)
theorem ReC.n_typ {σ : CsC} {r : Nat} {s0 s : SpC}  (_e : ReC σ r (typY s)) (h : NpY s0 s) : NpY s0 (typY s) := h.tr (gn_typ s)
theorem ReC.l_typ {σ : CsC} {r : Nat} {s0 s : SpC}  (_e : ReC σ r (typY s)) (h : LpY s0 s) : LpY s0 (typY s) := h.tr (gl_typ s)
theorem ReC.n_dcl {σ : CsC} {r : Nat} {s0 s : SpC} {ty f hr : Int} (_e : ReC σ r (dclY ty f hr s)) (h : NpY s0 s) : NpY s0 (dclY ty f hr s) := h.tr (gn_dcl s)
theorem ReC.l_dcl {σ : CsC} {r : Nat} {s0 s : SpC} {ty f hr : Int} (_e : ReC σ r (dclY ty f hr s)) (h : LpY s0 s) : LpY s0 (dclY ty f hr s) := h.tr (gl_dcl s)
theorem ReC.n_acc {σ : CsC} {r : Nat} {s0 s : SpC}  (_e : ReC σ r (accY s)) (h : NpY s0 s) : NpY s0 (accY s) := h.tr (gn_acc s)
theorem ReC.l_acc {σ : CsC} {r : Nat} {s0 s : SpC}  (_e : ReC σ r (accY s)) (h : LpY s0 s) : LpY s0 (accY s) := h.tr (gl_acc s)
theorem ReC.n_rai {σ : CsC} {r : Nat} {s0 s : SpC} {m : Int} (_e : ReC σ r (raiY m s)) (h : NpY s0 s) : NpY s0 (raiY m s) := h.tr (gn_rai s)
theorem ReC.l_rai {σ : CsC} {r : Nat} {s0 s : SpC} {m : Int} (_e : ReC σ r (raiY m s)) (h : LpY s0 s) : LpY s0 (raiY m s) := h.tr (gl_rai s)
theorem ReC.n_pad {σ : CsC} {r : Nat} {s0 s : SpC} {ty : Int} (_e : ReC σ r (padY ty s)) (h : NpY s0 s) : NpY s0 (padY ty s) := h.tr (gn_pad s)
theorem ReC.l_pad {σ : CsC} {r : Nat} {s0 s : SpC} {ty : Int} (_e : ReC σ r (padY ty s)) (h : LpY s0 s) : LpY s0 (padY ty s) := h.tr (gl_pad s)
theorem ReC.no {σ : CsC} {r : Nat} {m : Int} {s : SpC} {y : Int32} (e : ReC σ r (accY (raiY m s))) (hn : ¬ m = 0) (c : fIC σ r 243 = y) (h0 : y.toInt = 0) : False := by
  have q := e.ft c
  rw [h0, accY_f (raiY_z hn)] at q
  exact raiY_z hn q.symm
