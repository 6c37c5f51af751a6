/-! reading as a function: at goes on, behind a fault nothing is read; fuel -/
def GpY (s t : SpC) : Prop := (¬ zFt s = 0 → t.1 = s.1) ∧ (zAt s ≤ 500 → zAt s ≤ zAt t ∧ zAt t ≤ 500)
theorem GpY.rf {s : SpC} : GpY s s := ⟨fun _ => rfl, fun h => ⟨Int.le_refl _, h⟩⟩
theorem GpY.tr {s t u : SpC} (h : GpY s t) (g : GpY t u) : GpY s u := by
  refine ⟨fun z => ?_, fun z => ?_⟩
  · have e := h.1 z
    have z' : ¬ zFt t = 0 := by unfold zFt; rw [e]; exact z
    rw [g.1 z', e]
  · have a := h.2 z
    have b := g.2 a.2
    exact ⟨Int.le_trans a.1 b.1, b.2⟩
theorem GpY.one {s t : SpC} (h : t.1 = s.1) : GpY s t := ⟨fun _ => h, fun z => by unfold zAt at z ⊢; rw [h]; exact ⟨Int.le_refl _, z⟩⟩
theorem GpY.ft {s t : SpC} (h : GpY s t) (z : ¬ zFt s = 0) : ¬ zFt t = 0 := by unfold zFt; rw [h.1 z]; exact z
abbrev GdY (f : SpC → SpC) : Prop := ∀ s, GpY s (f s)
theorem gd_rai {n : Int} : GdY (raiY n) := by
  intro s
  by_cases z : zFt s = 0
  · unfold raiY
    rw [if_pos z]
    exact ⟨fun q => absurd z q, fun h => ⟨Int.le_refl _, h⟩⟩
  · rw [raiY_f z]
    exact GpY.rf
theorem gd_acc : GdY accY := by
  intro s
  unfold accY
  split
  · exact gd_rai s
  · split
    · next z => exact ⟨fun q => absurd z q, fun h => ⟨by show zAt s ≤ zAt s + 1; omega, by show zAt s + 1 ≤ 500; omega⟩⟩
    · exact GpY.rf
theorem gd_xp {c : Int} : GdY (xpY c) := by
  intro s
  unfold xpY
  split
  · exact gd_acc s
  · exact gd_rai s
theorem gd_typ : GdY typY := by
  intro s
  unfold typY
  split
  · exact gd_acc s
  · exact gd_rai s
theorem gd_met {ty : Int} : GdY (metY ty) := fun _ => GpY.one rfl
theorem gd_vad {ty f : Int} : GdY (vadY ty f) := fun _ => GpY.one rfl
theorem gd_pad {ty : Int} : GdY (padY ty) := fun _ => GpY.one rfl
theorem gd_dc1 {h : Int} : GdY (dc1Y h) := by
  intro s
  unfold dc1Y
  split
  · split
    · exact gd_rai s
    · exact GpY.rf
  · exact gd_rai s
theorem gd_dc2 {ty f : Int} : GdY (dc2Y ty f) := by
  intro s
  unfold dc2Y
  split
  · exact (gd_vad s).tr (gd_acc _)
  · exact GpY.rf
theorem gd_dcl {ty f h : Int} : GdY (dclY ty f h) := fun s => (gd_dc1 s).tr (gd_dc2 _)
theorem gd_clp {E : SpC → SpC} (hE : GdY E) : ∀ n, GdY (clpY E n) := by
  intro n
  induction n with
  | zero => exact fun s => GpY.rf
  | succ n ih =>
    intro s
    rw [clpY]
    split
    · exact (gd_acc s).tr ((hE _).tr (ih _))
    · exact GpY.rf
theorem gd_chl {E : SpC → SpC} (hE : GdY E) : ∀ n, GdY (chlY E n) := by
  intro n
  induction n with
  | zero => exact fun s => GpY.rf
  | succ n ih =>
    intro s
    rw [chlY]
    split
    · exact (gd_acc s).tr ((hE _).tr (ih _))
    · exact GpY.rf
theorem gd_opr {m : Nat} {E I : SpC → SpC} (hE : GdY E) (hI : GdY I) : GdY (oprY m E I) := by
  intro s
  unfold oprY
  split
  · exact (gd_acc s).tr (hI _)
  split
  · exact (gd_acc s).tr (gd_xp _)
  split
  · unfold opnY
    refine (gd_acc s).tr ?_
    unfold op2Y
    split
    · exact (gd_typ _).tr ((gd_xp _).tr (hI _))
    · exact (hE _).tr (gd_xp _)
  split
  · unfold nmeY
    split
    · unfold calY
      refine ((gd_acc s).tr (gd_acc _)).tr (GpY.tr ?_ (gd_xp _))
      unfold ca2Y
      split
      · exact gd_rai _
      split
      · exact GpY.rf
      · exact (hE _).tr (gd_clp hE _ _)
    split
    · exact (gd_acc s).tr (gd_acc _)
    · exact gd_acc s
  split
  · exact gd_acc s
  · exact gd_rai s
theorem gd_chc {O E C : SpC → SpC} (hO : GdY O) (hE : GdY E) (hC : GdY C) : GdY (chcY O E C) := by
  intro s
  unfold chcY chnY ch2Y
  refine ((hO s).tr (gd_chl hO 501 _)).tr ?_
  split
  · exact (gd_acc _).tr ((hE _).tr ((gd_xp _).tr (hC _)))
  · exact GpY.rf
theorem gd_xps {O E C : SpC → SpC} (hO : GdY O) (hE : GdY E) (hC : GdY C) : GdY (xpsY O E C) := by
  intro s
  unfold xpsY
  split
  · split
    · unfold asgY
      exact ((gd_acc s).tr (gd_acc _)).tr (hE _)
    · exact gd_chc hO hE hC s
  · exact gd_chc hO hE hC s
theorem gd_lv : ∀ n, GdY (lvY n).1 ∧ GdY (lvY n).2.1 ∧ GdY (lvY n).2.2 := by
  intro n
  induction n with
  | zero => exact ⟨gd_rai, gd_rai, gd_rai⟩
  | succ n ih => exact ⟨gd_xps (gd_opr ih.1 ih.2.2) ih.1 ih.2.1, gd_chc (gd_opr ih.1 ih.2.2) ih.1 ih.2.1, gd_opr ih.1 ih.2.2⟩
theorem gd_e {n : Nat} : GdY (eY n) := (gd_lv n).1
theorem gd_c {n : Nat} : GdY (cY n) := (gd_lv n).2.1
theorem gd_o {n : Nat} : GdY (oY n) := (gd_lv n).2.2
theorem gd_op {n : Nat} : GdY (opY n) := gd_opr gd_e gd_o
/-- a token is taken, or there is a fault -/
theorem acc_pg {s : SpC} (h : zFt (accY s) = 0) : zFt s = 0 ∧ zAt (accY s) = zAt s + 1 ∧ zAt s < 500 ∧ accY s = ((zAt s + 1, zFt s, zPl s), s.2) := by
  by_cases z : zFt s = 0
  · unfold accY at h ⊢
    by_cases q : 500 ≤ zAt s
    · rw [if_pos q] at h
      exact absurd h (raiY_z (by decide))
    · rw [if_neg q, if_pos z]
      exact ⟨z, rfl, by omega, rfl⟩
  · rw [accY_f z] at h
    exact absurd h z
theorem accY_s {s : SpC} (z : zFt s = 0) (h : zAt s < 500) : accY s = ((zAt s + 1, zFt s, zPl s), s.2) := by
  unfold accY
  rw [if_neg (by omega), if_pos z]
theorem accY_l {s : SpC} (h : 500 ≤ zAt s) : accY s = raiY 3 s := by
  unfold accY
  rw [if_pos h]
theorem clpY_f {E : SpC → SpC} {n : Nat} {s : SpC} (z : ¬ zFt s = 0) : clpY E n s = s := by
  cases n with
  | zero => rfl
  | succ n => rw [clpY, codY_f z, if_neg (by decide)]
theorem chlY_f {E : SpC → SpC} {n : Nat} {s : SpC} (z : ¬ zFt s = 0) : chlY E n s = s := by
  cases n with
  | zero => rfl
  | succ n => rw [chlY, codY_f z, if_neg (by decide)]
theorem clp_fu {E : SpC → SpC} (hE : GdY E) : ∀ (n : Nat) (s : SpC), zAt s ≤ 500 → 501 - zAt s ≤ n → clpY E n s = clpY E (n + 1) s := by
  intro n
  induction n with
  | zero => intro s h1 h2; omega
  | succ n ih =>
    intro s h1 h2
    rw [clpY, clpY]
    split
    · by_cases z : zFt (accY s) = 0
      · have a := acc_pg z
        have b := (hE (accY s)).2 (by omega)
        exact ih _ b.2 (by omega)
      · have q := (hE (accY s)).ft z
        rw [clpY_f q, clpY_f q]
    · rfl
theorem chl_fu {E : SpC → SpC} (hE : GdY E) : ∀ (n : Nat) (s : SpC), zAt s ≤ 500 → 501 - zAt s ≤ n → chlY E n s = chlY E (n + 1) s := by
  intro n
  induction n with
  | zero => intro s h1 h2; omega
  | succ n ih =>
    intro s h1 h2
    rw [chlY, chlY]
    split
    · by_cases z : zFt (accY s) = 0
      · have a := acc_pg z
        have b := (hE (accY s)).2 (by omega)
        exact ih _ b.2 (by omega)
      · have q := (hE (accY s)).ft z
        rw [chlY_f q, chlY_f q]
    · rfl
/-- one more , and exp; one more operator and operand -/
theorem clp_one {E : SpC → SpC} (hE : GdY E) {s : SpC} (h0 : 0 ≤ zAt s) (h : zAt s ≤ 500) (hc : codY s = 5) : clpY E 501 s = clpY E 501 (E (accY s)) := by
  rw [clpY, if_pos hc]
  by_cases z : zFt (accY s) = 0
  · have a := acc_pg z
    have b := (hE (accY s)).2 (by omega)
    exact clp_fu hE 500 _ b.2 (by omega)
  · have q := (hE (accY s)).ft z
    rw [clpY_f q, clpY_f q]
theorem chl_one {E : SpC → SpC} (hE : GdY E) {s : SpC} (h0 : 0 ≤ zAt s) (h : zAt s ≤ 500) (hc : 20 ≤ codY s ∧ codY s ≤ 38) : chlY E 501 s = chlY E 501 (E (accY s)) := by
  rw [chlY, if_pos hc]
  by_cases z : zFt (accY s) = 0
  · have a := acc_pg z
    have b := (hE (accY s)).2 (by omega)
    exact chl_fu hE 500 _ b.2 (by omega)
  · have q := (hE (accY s)).ft z
    rw [chlY_f q, chlY_f q]
theorem clp_no {E : SpC → SpC} {s : SpC} {n : Nat} (hc : ¬ codY s = 5) : clpY E n s = s := by
  cases n with
  | zero => rfl
  | succ n => rw [clpY, if_neg hc]
theorem chl_no {E : SpC → SpC} {s : SpC} {n : Nat} (hc : ¬ (20 ≤ codY s ∧ codY s ≤ 38)) : chlY E n s = s := by
  cases n with
  | zero => rfl
  | succ n => rw [chlY, if_neg hc]
/-! what is still to be done in an exp, by what stands open: 0 prefix, 1 cast, 2 operator, 3 group, 4 call, 5 assignment, 6 ?, 7 : -/
/-- a chain's rest and a choice's -/
def tlY (n : Nat) (s : SpC) : SpC := ch2Y (eY (n - 1)) (cY (n - 1)) (chlY (opY n) 501 s)
/-- behind an operand, a choice, an exp -/
def kY : List Int → (Nat → SpC → SpC) × (Nat → SpC → SpC) × (Nat → SpC → SpC)
  | [] => (tlY, fun _ s => s, fun _ s => s)
  | k :: O =>
    let e : Nat → SpC → SpC := if k = 5 then (fun n s => (kY O).2.2 (n + 1) s) else if k = 6 then (fun n s => (kY O).2.1 (n + 1) (cY n (xpY 6 s))) else if k = 3 then (fun n s => (kY O).1 (n + 1) (xpY 1 s)) else (fun n s => (kY O).1 (n + 1) (xpY 1 (clpY (eY n) 501 s)))
    let c : Nat → SpC → SpC := if k = 7 then (fun n s => (kY O).2.1 (n + 1) s) else e
    ((if k = 0 ∨ k = 1 then (fun n s => (kY O).1 (n + 1) s) else if k = 2 then (kY O).1 else (fun n s => c n (tlY n s))), c, e)
def foY (O : List Int) (n : Nat) (s : SpC) : SpC := (kY O).1 n s
def cfY (O : List Int) (n : Nat) (s : SpC) : SpC := (kY O).2.1 n s
def efY (O : List Int) (n : Nat) (s : SpC) : SpC := (kY O).2.2 n s
def wtY (b : Int) (O : List Int) (n : Nat) (s : SpC) : SpC := if b = 1 then efY O n (eY n s) else foY O n (opY n s)
/-- the top -/
def tpY (O : List Int) : Int := match O with
  | [] => -2
  | k :: _ => k
/-- what stands below what -/
def wfY : List Int → Prop
  | [] => True
  | k :: O => (0 ≤ k ∧ k ≤ 7) ∧ (k = 2 → ¬ tpY O = 0 ∧ ¬ tpY O = 1) ∧ (5 ≤ k → ¬ tpY O = 0 ∧ ¬ tpY O = 1 ∧ ¬ tpY O = 2) ∧ (k = 5 → ¬ tpY O = 7) ∧ wfY O
theorem fo_pre {O : List Int} {n : Nat} {s : SpC} {k : Int} (h : k = 0 ∨ k = 1) : foY (k :: O) n s = foY O (n + 1) s := by
  unfold foY
  rw [kY]
  dsimp only
  rw [if_pos h]
theorem fo_bin {O : List Int} {n : Nat} {s : SpC} : foY (2 :: O) n s = foY O n s := by
  unfold foY
  rw [kY]
  rfl
theorem fo_cf {O : List Int} {n : Nat} {s : SpC} (h : ¬ tpY O = 0 ∧ ¬ tpY O = 1 ∧ ¬ tpY O = 2) : foY O n s = cfY O n (tlY n s) := by
  cases O with
  | nil => rfl
  | cons k O =>
    have h : ¬ k = 0 ∧ ¬ k = 1 ∧ ¬ k = 2 := h
    unfold foY cfY
    rw [kY]
    dsimp only
    rw [if_neg (by omega), if_neg (by omega)]
theorem cf_col {O : List Int} {n : Nat} {s : SpC} : cfY (7 :: O) n s = cfY O (n + 1) s := by
  unfold cfY
  rw [kY]
  rfl
theorem cf_ef {O : List Int} {n : Nat} {s : SpC} (h : ¬ tpY O = 7) : cfY O n s = efY O n s := by
  cases O with
  | nil => rfl
  | cons k O =>
    have h : ¬ k = 7 := h
    unfold cfY efY
    rw [kY]
    dsimp only
    rw [if_neg h]
theorem ef_set {O : List Int} {n : Nat} {s : SpC} : efY (5 :: O) n s = efY O (n + 1) s := by
  unfold efY
  rw [kY]
  rfl
theorem ef_que {O : List Int} {n : Nat} {s : SpC} : efY (6 :: O) n s = cfY O (n + 1) (cY n (xpY 6 s)) := by
  unfold efY cfY
  rw [kY]
  rfl
theorem ef_grp {O : List Int} {n : Nat} {s : SpC} : efY (3 :: O) n s = foY O (n + 1) (xpY 1 s) := by
  unfold efY foY
  rw [kY]
  rfl
theorem ef_cal {O : List Int} {n : Nat} {s : SpC} : efY (4 :: O) n s = foY O (n + 1) (xpY 1 (clpY (eY n) 501 s)) := by
  unfold efY foY
  rw [kY]
  rfl
theorem gd_tl {n : Nat} : GdY (tlY n) := by
  intro s
  unfold tlY ch2Y
  refine (gd_chl (gd_op (n := n)) 501 s).tr ?_
  split
  · exact (gd_acc _).tr ((gd_e _).tr ((gd_xp _).tr (gd_c _)))
  · exact GpY.rf
theorem gd_k : ∀ O : List Int, (∀ n, GdY ((kY O).1 n)) ∧ (∀ n, GdY ((kY O).2.1 n)) ∧ (∀ n, GdY ((kY O).2.2 n)) := by
  intro O
  induction O with
  | nil => exact ⟨fun n => gd_tl, fun n s => GpY.rf, fun n s => GpY.rf⟩
  | cons k O ih =>
    have e : ∀ n, GdY ((kY (k :: O)).2.2 n) := by
      intro n s
      rw [kY]
      dsimp only
      split
      · exact ih.2.2 _ s
      split
      · exact ((gd_xp s).tr (gd_c _)).tr (ih.2.1 _ _)
      split
      · exact (gd_xp s).tr (ih.1 _ _)
      · exact ((gd_clp gd_e _ s).tr (gd_xp _)).tr (ih.1 _ _)
    have c : ∀ n, GdY ((kY (k :: O)).2.1 n) := by
      intro n s
      by_cases h : k = 7
      · subst h
        exact ih.2.1 _ s
      · have := e n s
        have q := @cf_ef (k :: O) n s h
        unfold cfY efY at q
        rw [q]
        exact this
    refine ⟨fun n s => ?_, c, e⟩
    by_cases h : k = 0 ∨ k = 1
    · rw [kY]
      dsimp only
      rw [if_pos h]
      exact ih.1 _ s
    · by_cases h2 : k = 2
      · subst h2
        exact ih.1 _ s
      · have q := @fo_cf (k :: O) n s ⟨fun z => h (Or.inl z), fun z => h (Or.inr z), h2⟩
        unfold foY cfY at q
        rw [q]
        exact (gd_tl s).tr (c n _)
theorem gd_fo {O : List Int} {n : Nat} : GdY (foY O n) := (gd_k O).1 n
theorem gd_cf {O : List Int} {n : Nat} : GdY (cfY O n) := (gd_k O).2.1 n
theorem gd_ef {O : List Int} {n : Nat} : GdY (efY O n) := (gd_k O).2.2 n
theorem gd_wt {b : Int} {O : List Int} {n : Nat} : GdY (wtY b O n) := by
  intro s
  unfold wtY
  split
  · exact (gd_e s).tr (gd_ef _)
  · exact (gd_op s).tr (gd_fo _)
