/-! NAMES and TYPES of methods stay -/
def nmT (s : SpC) : List (Int × Int) := (zMs s).map (fun m => (m.1, m.2.1))
def LkY (s t : SpC) : Prop := nmT t = nmT s ∧ True
theorem LkY.rf {s : SpC} : LkY s s := ⟨rfl, trivial⟩
theorem LkY.tr {s t u : SpC} (h : LkY s t) (g : LkY t u) : LkY s u := ⟨g.1.trans h.1, trivial⟩
abbrev GkY (f : SpC → SpC) : Prop := ∀ s, LkY s (f s)
theorem LkY.s2 {s t : SpC} (h : t.2.1.1 = s.2.1.1) : LkY s t := ⟨by unfold nmT zMs; rw [h], trivial⟩
theorem gk_rai {n : Int} : GkY (raiY n) := by
  intro s
  refine LkY.s2 ?_
  unfold raiY
  split <;> rfl
theorem gk_acc : GkY accY := by
  intro s
  unfold accY
  split
  · exact gk_rai s
  · split <;> exact LkY.s2 rfl
theorem gk_vad {ty f : Int} : GkY (vadY ty f) := fun _ => LkY.s2 rfl
theorem gk_pad {ty : Int} : GkY (padY ty) := by
  intro s
  refine ⟨?_, trivial⟩
  unfold nmT
  show (match zMs s with
    | [] => []
    | (a, b, l) :: r => (a, b, ty :: l) :: r : List (Int × Int × List Int)).map _ = _
  generalize zMs s = q
  cases q with
  | nil => rfl
  | cons x r => rfl
def PkY (s t : SpC) : Prop := LkY s t ∧ True
theorem PkY.l {s t u : SpC} (h : PkY s t) (g : LkY t u) : PkY s u := ⟨h.1.tr g, trivial⟩
theorem PkY.r {s t u : SpC} (g : LkY s t) (h : PkY t u) : PkY s u := ⟨g.tr h.1, trivial⟩
theorem pk_acc {s : SpC} : PkY s (accY s) := ⟨gk_acc s, trivial⟩
theorem pk_rai {n : Int} {s : SpC} (hn : ¬ n = 0) : PkY s (raiY n s) := ⟨gk_rai s, trivial⟩
theorem gk_xp {c : Int} : GkY (xpY c) := by
  intro s
  unfold xpY
  split
  · exact gk_acc s
  · exact gk_rai s
theorem gk_typ : GkY typY := by
  intro s
  unfold typY
  split
  · exact gk_acc s
  · exact gk_rai s
theorem gk_dc1 {h : Int} : GkY (dc1Y h) := by
  intro s
  unfold dc1Y
  split
  · split
    · exact gk_rai s
    · exact LkY.rf
  · exact gk_rai s
theorem gk_dc2 {ty f : Int} : GkY (dc2Y ty f) := by
  intro s
  unfold dc2Y
  split
  · exact (gk_vad s).tr (gk_acc _)
  · exact LkY.rf
theorem gk_dcl {ty f h : Int} : GkY (dclY ty f h) := fun s => (gk_dc1 s).tr (gk_dc2 _)
theorem gk_clp {E : SpC → SpC} (hE : GkY E) : ∀ n, GkY (clpY E n) := by
  intro n
  induction n with
  | zero => exact fun s => LkY.rf
  | succ n ih =>
    intro s
    rw [clpY]
    split
    · exact (gk_acc s).tr ((hE _).tr (ih _))
    · exact LkY.rf
theorem gk_chl {E : SpC → SpC} (hE : GkY E) : ∀ n, GkY (chlY E n) := by
  intro n
  induction n with
  | zero => exact fun s => LkY.rf
  | succ n ih =>
    intro s
    rw [chlY]
    split
    · exact (gk_acc s).tr ((hE _).tr (ih _))
    · exact LkY.rf
theorem gk_opr {m : Nat} {E I : SpC → SpC} (hE : GkY E) (hI : GkY I) : GkY (oprY m E I) := by
  intro s
  unfold oprY
  split
  · exact (gk_acc s).tr (hI _)
  split
  · exact (gk_acc s).tr (gk_xp _)
  split
  · unfold opnY
    refine (gk_acc s).tr ?_
    unfold op2Y
    split
    · exact (gk_typ _).tr ((gk_xp _).tr (hI _))
    · exact (hE _).tr (gk_xp _)
  split
  · unfold nmeY
    split
    · unfold calY
      refine ((gk_acc s).tr (gk_acc _)).tr (LkY.tr ?_ (gk_xp _))
      unfold ca2Y
      split
      · exact gk_rai _
      split
      · exact LkY.rf
      · exact (hE _).tr (gk_clp hE _ _)
    split
    · exact (gk_acc s).tr (gk_acc _)
    · exact gk_acc s
  split
  · exact gk_acc s
  · exact gk_rai s
theorem gk_chc {O E C : SpC → SpC} (hO : GkY O) (hE : GkY E) (hC : GkY C) : GkY (chcY O E C) := by
  intro s
  unfold chcY chnY ch2Y
  refine ((hO s).tr (gk_chl hO 501 _)).tr ?_
  split
  · exact (gk_acc _).tr ((hE _).tr ((gk_xp _).tr (hC _)))
  · exact LkY.rf
theorem gk_xps {O E C : SpC → SpC} (hO : GkY O) (hE : GkY E) (hC : GkY C) : GkY (xpsY O E C) := by
  intro s
  unfold xpsY
  split
  · split
    · unfold asgY
      exact ((gk_acc s).tr (gk_acc _)).tr (hE _)
    · exact gk_chc hO hE hC s
  · exact gk_chc hO hE hC s
theorem gk_lv : ∀ n, GkY (lvY n).1 ∧ GkY (lvY n).2.1 ∧ GkY (lvY n).2.2 := by
  intro n
  induction n with
  | zero => exact ⟨gk_rai, gk_rai, gk_rai⟩
  | succ n ih => exact ⟨gk_xps (gk_opr ih.1 ih.2.2) ih.1 ih.2.1, gk_chc (gk_opr ih.1 ih.2.2) ih.1 ih.2.1, gk_opr ih.1 ih.2.2⟩
theorem gk_e {n : Nat} : GkY (eY n) := (gk_lv n).1
theorem gk_c {n : Nat} : GkY (cY n) := (gk_lv n).2.1
theorem gk_o {n : Nat} : GkY (oY n) := (gk_lv n).2.2
theorem gk_op {n : Nat} : GkY (opY n) := gk_opr gk_e gk_o
theorem pk_xp {c : Int} {s : SpC} : PkY s (xpY c s) := by
  unfold xpY
  split
  · exact pk_acc
  · exact pk_rai (by decide)
theorem pk_typ {s : SpC} : PkY s (typY s) := by
  unfold typY
  split
  · exact pk_acc
  · exact pk_rai (by decide)
theorem gk_cnd {n : Nat} : GkY (cndY n) := fun s => ((gk_xp s).tr (gk_e _)).tr (gk_xp _)
theorem gk_va2 {n : Nat} {f : Int} : GkY (va2Y n f) := by
  intro s
  unfold va2Y
  split
  · exact (gk_xp s).tr (gk_e _)
  · exact LkY.rf
theorem pk_var {n : Nat} {s : SpC} : PkY s (varY n s) := by
  unfold varY
  split
  · exact pk_acc.l (((gk_typ _).tr (gk_dcl _)).tr (gk_va2 _))
  · exact pk_typ.l ((gk_dcl _).tr (gk_va2 _))
theorem gk_fex {n : Nat} : GkY (fexY n) := fun s => (gk_e s).tr (gk_clp gk_e _ _)
theorem pk_cas {n : Nat} {s : SpC} : PkY s (casY n s) := by
  unfold casY
  split
  · exact pk_acc.l ((gk_e _).tr (gk_xp _))
  · exact pk_acc.l (gk_xp _)
theorem gk_blk {Rw : Int → SpC → SpC} (h : ∀ sw, GkY (Rw sw)) : GkY (blkY Rw) := fun s => ((gk_xp s).tr (h _ _)).tr (gk_xp _)
theorem gk_si3 {k : Int} : GkY (si3Y k) := by
  intro s
  unfold si3Y
  split
  · exact LkY.rf
  split
  · exact LkY.rf
  split
  · exact gk_acc s
  · exact LkY.rf
theorem gk_si2 {n : Nat} {k : Int} : GkY (si2Y n k) := by
  intro s
  unfold si2Y
  split
  · exact gk_e s
  split
  · split
    · exact LkY.rf
    · exact gk_e s
  · exact LkY.rf
theorem gk_if2 {St : SpC → SpC} (h : GkY St) : GkY (if2Y St) := by
  intro s
  unfold if2Y
  split
  · exact (gk_acc s).tr (h _)
  · exact LkY.rf
theorem gk_tr1 : GkY tr1Y := by
  intro s
  unfold tr1Y
  split
  · exact LkY.rf
  · exact gk_rai s
theorem gk_tr2 {Rw : Int → SpC → SpC} (h : ∀ sw, GkY (Rw sw)) : GkY (tr2Y Rw) := by
  intro s
  unfold tr2Y
  split
  · exact (((gk_acc s).tr (gk_xp _)).tr ((gk_dcl _).tr (gk_xp _))).tr (gk_blk h _)
  · exact LkY.rf
theorem gk_tr3 {Rw : Int → SpC → SpC} (h : ∀ sw, GkY (Rw sw)) : GkY (tr3Y Rw) := by
  intro s
  unfold tr3Y
  split
  · exact (gk_acc s).tr (gk_blk h _)
  · exact LkY.rf
theorem gk_fo1 {n : Nat} : GkY (fo1Y n) := by
  intro s
  unfold fo1Y
  split
  · exact pk_var.1
  split
  · exact LkY.rf
  · exact gk_fex s
theorem gk_fo2 {n : Nat} : GkY (fo2Y n) := by
  intro s
  unfold fo2Y
  split
  · exact LkY.rf
  · exact gk_e s
theorem gk_fo3 {n : Nat} : GkY (fo3Y n) := by
  intro s
  unfold fo3Y
  split
  · exact LkY.rf
  · exact gk_fex s
theorem pk_sm {n : Nat} {St : SpC → SpC} {Rw : Int → SpC → SpC} (hS : GkY St) (hR : ∀ sw, GkY (Rw sw)) {s : SpC} : PkY s (smY n St Rw s) := by
  unfold smY
  split
  · unfold ifY
    exact pk_acc.l (((gk_cnd _).tr (hS _)).tr (gk_if2 hS _))
  split
  · unfold whiY
    exact pk_acc.l ((gk_cnd _).tr (hS _))
  split
  · unfold doY
    exact pk_acc.l ((((hS _).tr (gk_xp _)).tr (gk_cnd _)).tr (gk_xp _))
  split
  · unfold forY
    exact pk_acc.l ((((((((gk_xp _).tr (gk_fo1 _)).tr (gk_xp _)).tr (gk_fo2 _)).tr (gk_xp _)).tr (gk_fo3 _)).tr (gk_xp _)).tr (hS _))
  split
  · unfold swiY
    exact pk_acc.l ((((gk_cnd _).tr (gk_xp _)).tr (hR _ _)).tr (gk_xp _))
  split
  · unfold tryY
    exact pk_acc.l ((((gk_blk hR _).tr (gk_tr1 _)).tr (gk_tr2 hR _)).tr (gk_tr3 hR _))
  split
  · unfold simY
    split
    · unfold blkY
      exact pk_xp.l ((hR _ _).tr (gk_xp _))
    split
    · exact pk_acc
    · exact pk_acc.l (((gk_si2 _).tr (gk_si3 _)).tr (gk_xp _))
  split
  · split
    · unfold labY
      exact pk_acc.l ((gk_xp _).tr (hS _))
    · unfold xstY
      exact PkY.r (gk_e _) pk_xp
  · unfold xstY
    exact PkY.r (gk_e _) pk_xp
theorem gk_rp2 {n : Nat} {S : SpC → SpC} (hS : GkY S) : GkY (rp2Y n S) := by
  intro s
  unfold rp2Y
  split
  · exact pk_var.1.tr (gk_xp _)
  · exact hS s
theorem gk_rpa {n : Nat} {S : SpC → SpC} (hS : GkY S) {sw b : Int} : GkY (rpaY n S sw b) := by
  intro s
  unfold rpaY
  split
  · split
    · exact pk_cas.1
    split
    · exact (gk_rai s).tr (gk_rp2 hS _)
    · exact gk_rp2 hS s
  · exact gk_rp2 hS s
theorem gk_rwl {n : Nat} {S : SpC → SpC} (hS : GkY S) {sw : Int} : ∀ (f : Nat) (b : Int), GkY (rwlY n S sw f b) := by
  intro f
  induction f with
  | zero => exact fun b s => LkY.rf
  | succ f ih =>
    intro b s
    rw [rwlY]
    split
    · split
      · exact LkY.rf
      · exact (gk_rpa hS s).tr (ih _ _)
    · exact LkY.rf
theorem gk_ls : ∀ n, GkY (lsY n).1 ∧ ∀ sw, GkY ((lsY n).2 sw) := by
  intro n
  induction n with
  | zero => exact ⟨gk_rai, fun _ => gk_rai⟩
  | succ n ih =>
    have h : GkY (smY (n + 1) (lsY n).1 (lsY n).2) := fun s => (pk_sm ih.1 ih.2).1
    exact ⟨h, fun sw s => gk_rwl h _ _ s⟩
theorem gk_st {n : Nat} : GkY (stY n) := (gk_ls n).1
theorem gk_rw {n : Nat} {sw : Int} : GkY (rwY n sw) := (gk_ls n).2 sw
theorem pk_st {n : Nat} {s : SpC} : PkY s (stY n s) := by
  cases n with
  | zero => exact pk_rai (by decide)
  | succ n => exact pk_sm gk_st (fun _ => gk_rw)
theorem pk_rp2 {n : Nat} {s : SpC} : PkY s (rp2Y n (stY n) s) := by
  unfold rp2Y
  split
  · exact pk_var.l (gk_xp _)
  · exact pk_st
theorem gk_pa2 {i : Nat} {ty f : Int} : GkY (pa2Y i ty f) := by
  intro s
  unfold pa2Y
  split
  · exact (gk_dcl s).tr (gk_pad _)
  · exact gk_dcl s
theorem gk_pa1 {i : Nat} : GkY (pa1Y i) := by
  intro s
  unfold pa1Y
  split
  · exact ((gk_acc s).tr (gk_typ _)).tr (gk_pa2 _)
  · exact (gk_typ s).tr (gk_pa2 _)
theorem gk_pal : ∀ f i, GkY (palY f i) := by
  intro f
  induction f with
  | zero => exact fun i s => LkY.rf
  | succ f ih =>
    intro i s
    rw [palY]
    split
    · exact ((gk_pa1 s).tr (gk_acc _)).tr (ih _ _)
    · exact gk_pa1 s
theorem gk_par : GkY parY := by
  intro s
  unfold parY pa3Y
  refine LkY.tr ((gk_xp (c := 0) s).tr ?_) (gk_xp _)
  split
  · exact LkY.rf
  · exact gk_pal _ _ _
theorem gdm {d : Int × Int × List Int} : ∀ {l : List (Int × Int × List Int)} {i : Nat}, (l.map (fun m => (m.1, m.2.1))).getD i (d.1, d.2.1) = ((l.getD i d).1, (l.getD i d).2.1) := by
  intro l
  induction l with
  | nil => intro i; rfl
  | cons x l ih =>
    intro i
    cases i with
    | zero => rfl
    | succ i => exact ih
theorem LkY.mt {s t : SpC} (h : LkY s t) : (zMs t).length = (zMs s).length ∧ ∀ k, ((mth t k).1, (mth t k).2.1) = ((mth s k).1, (mth s k).2.1) := by
  have e : (zMs t).length = (zMs s).length := by
    have q := congrArg List.length h.1
    unfold nmT at q
    rw [List.length_map, List.length_map] at q
    exact q
  refine ⟨e, fun k => ?_⟩
  unfold mth
  rw [← gdm, ← gdm, e]
  have q := h.1
  unfold nmT at q
  rw [q]
theorem MkX.fr {c : Nat} {M : List Nat} {σ τ : CsC} (h : FrE M σ τ) (h9 : M.elem 999 = false) (h1 : M.elem 181 = false) (h4 : M.elem 184 = false) (h6 : M.elem 186 = false) (hc : c ≤ cnC σ) : MkX c σ τ := ⟨fun a ha => by
  have q := (h.2 h9 a (by omega)).1
  exact ⟨(q 181 h1).2.1, (q 184 h4).1, (q 186 h6).2.2⟩, h.1⟩
theorem pL_k {σ : CsC} {o a k j : Nat} {w : Int64} (h : j ≠ k) : fLC (pLC σ o k w) a j = fLC σ a j := u2C_nk h
theorem MkX.rf {c : Nat} {σ : CsC} : MkX c σ σ := ⟨fun _ _ => ⟨rfl, rfl, rfl⟩, Nat.le_refl _⟩
abbrev Pz_readMethod : ((Int → Int) × (Nat → Nat) × (Nat → Nat) × (Nat → Nat) × (Nat → Nat) × ZS × (Nat → Nat) × (Nat → Nat)) → CpC := fun y As σ => match y with
  | (N, Eo, A, B, V, z, J, F) => As = [.inr (.inr (some (Eo 0)))] ∧ (ZC N Eo A B V (prS (Eo 0) σ) z) ∧ (z.2.2.2.1 = ([], -1)) ∧ (MhC N Eo B J F σ z) ∧ (zFt (meM N z).1 = 0)
abbrev Qz_readMethod : ((Int → Int) × (Nat → Nat) × (Nat → Nat) × (Nat → Nat) × (Nat → Nat) × ZS × (Nat → Nat) × (Nat → Nat)) → CqC := fun y As σ w τ => match y, As with
  | (N, Eo, A, B, V, z, J, F), [_] => w = none ∧ ∃ (E' A' B' V' : Nat → Nat), (∀ k, k < 1000 + (zMs z.1).length → E' k = Eo k) ∧ ZC N E' A' B' V' (prS (E' 0) τ) (rsM (meM N z)) ∧ MhC N E' B' (upA J (zMs z.1).length (snM z)) (upA F (zMs z.1).length (zVs z.1).length) τ (rsM (meM N z))
  | _, _ => True
abbrev Uz_readMethod : CqC := fun As σ w τ => ∀ y, Pz_readMethod y As σ → Qz_readMethod y As σ w τ
set_option maxHeartbeats 4000000 in
theorem pz_readMethod (y : (Int → Int) × (Nat → Nat) × (Nat → Nat) × (Nat → Nat) × (Nat → Nat) × ZS × (Nat → Nat) × (Nat → Nat)) : PbC KX7_readMethod [(125, TrP, EqC 125), (132, TrP, EqC 132), (128, TrP, EqC 128), (234, TrP, EqC 234), (111, TrP, EqC 111), (236, TrP, EqC 236), (135, TrP, EqC 135), (143, TrP, EqC 143), (127, TrP, EqC 127)] [(125, Uz_code9), (132, Uz_isType), (128, Uz_accept9), (111, Uz_Method), (135, Uz_readParams), (143, Uz_readBody)] (fun As σ => Pz_readMethod y As σ ∧ cnC σ ≤ 1000000 ∧ ∃ w τ, uqC quL 134 As σ w τ) (Qz_readMethod y) := by
  obtain ⟨N, Eo, A, B, V, z, J, F⟩ := y
  rintro As σ ⟨⟨rfl, hZo, hzk, hMo, hft⟩, hcn, _, _, hQ⟩ K hB hW n_
  obtain ⟨E, hEe⟩ : ∃ t : Nat → Nat, t = Eo := ⟨_, rfl⟩
  have hH : HI0 σ ∧ TyC σ (Eo 0) 8 := hQ
  have hEk : ∀ k, E k = Eo k := fun k => by rw [hEe]
  rw [← hEe] at hZo hMo hH
  have hZ := hZo
  have hR := hZ.r1
  have hat := ZC.at1 hR hH
  have h9 : zFt (mthY z.1) = 0 := by rw [← lf_me (N := N)]; exact hft
  have e1 : (50 ≤ codY z.1 ∧ codY z.1 ≤ 54) ∨ codY z.1 = 55 := Classical.byContradiction (fun q => by
    have h8 := (gd_acc _).z ((gd_me2 _).z ((gd_me3 _).z h9))
    unfold me1Y at h8
    rw [if_neg q] at h8
    exact raiY_z (by decide) h8)
  have e2 : me1M z = z := if_pos e1
  have e2y : me1Y z.1 = z.1 := if_pos e1
  have h2 : zFt (me2Y (accM z).1) = 0 := by
    have h8 := (gd_me3 _).z h9
    rw [e2y] at h8
    exact h8
  have hy : zFt (accM z).1 = 0 := (gd_me2 _).z h2
  have e80 : codY (accM z).1 = 80 := Classical.byContradiction (fun q => by
    have h8 := h2
    unfold me2Y at h8
    rw [if_neg q] at h8
    exact raiY_z (by decide) h8)
  have e10 : (zMs (accM z).1).length < 10 := Classical.byContradiction (fun q => by
    have h8 := h2
    unfold me2Y at h8
    rw [if_pos e80, if_pos (Nat.le_of_not_lt q)] at h8
    exact raiY_z (by decide) h8)
  have e3 : me2M (accM z) = (accM z) := by
    unfold me2M
    rw [if_pos e80, if_neg (by omega)]
  have eM : meM N z = coM 54 (zMs (accM z).1).length 0 (zAt (accM z).1) (boM (rwM N 20) 21 [] (paM N (accM (me0M (codY z.1 - 50) (accM z))))) := by
    unfold meM
    rw [e2, e3]
    unfold me3M
    rw [if_pos hy]
  have hfb : zFt (boM (rwM N 20) 21 [] (paM N (accM (me0M (codY z.1 - 50) (accM z))))).1 = 0 := by
    have h8 := hft
    rw [eM] at h8
    exact zf_co h8
  have hfp : zFt (paM N (accM (me0M (codY z.1 - 50) (accM z)))).1 = 0 := by
    have h8 := hfb
    rw [lf_bo lf_rw] at h8
    exact (gd_blk (fun _ => gd_rw) _).z h8
  have hfa : zFt (accM (me0M (codY z.1 - 50) (accM z))).1 = 0 := by
    have h8 := hfp
    rw [lf_pa] at h8
    exact (gd_par _).z h8
  have hac : (accM z).1 = ((zAt z.1 + 1, zFt z.1, zPl z.1), z.1.2) := (acc_n hy).2.2
  have hms : zMs (accM z).1 = zMs z.1 := by rw [hac]; rfl
  have hvs : zVs (accM z).1 = zVs z.1 := by rw [hac]; rfl
  have hlk : LkY (metY (codY z.1 - 50) (accM z).1) (meM N z).1 := by
    rw [eM]
    show LkY _ (boM (rwM N 20) 21 [] (paM N (accM (me0M (codY z.1 - 50) (accM z))))).1
    rw [lf_bo lf_rw, lf_pa]
    exact ((gk_acc (metY (codY z.1 - 50) (accM z).1)).tr (gk_par _)).tr (gk_blk (Rw := rwY 20) (fun _ => gk_rw) _)
  have L83 : ∀ (k : Nat) (υ : CsC) (E : Nat → Nat) (t1 t2 : Int32), ZC N E A B V (prS (E 0) υ) (accM z) → FzC (cnC σ) (xnM z) E A A B B V V z (accM z) σ υ → cnC σ ≤ cnC υ → (HI0 υ ∧ TyC υ (E 0) 8) → MhC N E B J F υ (accM z) → (∀ k, k < 1000 + (zMs z.1).length → E k = Eo k) → E (1000 + (zMs (accM z).1).length) = cnC υ → t1.toInt = (codY z.1 - 50) → t2.toInt = ((zMs (accM z).1).length : Int) → K k 83 [(0, .inr (.inr (some (E 0)))), (1, .inl t1), (2, .inl t2)] [] υ := by
    intro k υ E t1 t2 hP9 hF9 hle9 hT hM hEp hEo ht1 ht2
    have hR9 := hP9.r1
    have hat9 := ZC.at1 hR9 hT
    refine hB _ _ _ _ _ (fun m51 hm51 => ?_)
    dsimp only [ucgo, ucwp, ucsC, uqC, uoC, ctC, rfd, KX7_readMethod, KX7_readMethod_0, KX7_readMethod_18, KX7_readMethod_27, KX7_readMethod_32, KX7_readMethod_56, KX7_readMethod_64, KX7_readMethod_70, KX7_readMethod_75, KX7_readMethod_82, KX7_readMethod_83, lkC, s1C, s2C, dlC, kyC, Nat.beq, Nat.ble, rcd, rno, rsw, Nat.reduceAdd, Nat.reduceBEq, Nat.reduceDiv, List.drop, List.take, List.reverse, List.reverseAux, Int.toNat, Option.toList, List.append, List.cons_append, List.nil_append, zg211, zg212, zg240, zg241, zg242, zg243, zg303, zg304]
    generalize hs52 : nOC υ 56 (nfC 6) 0 = s52
    have hP52 : ZC N E A B V (prS (E 0) s52) (accM z) := ZC.nw hP9 (fun a ha k => pr_cg (by rw [← hs52]; exact nO_a (Nat.ne_of_lt ha))) (by rw [← hs52]; exact ⟨rfl, rfl, rfl⟩) (by rw [← hs52]; exact Nat.le_succ _)
    have hZ52 := ZC.r1 hP52
    intro a53 e53 ob53
    cases e53
    have f54 : (fIC s52 (E 0) 242).toInt = zAt (accM z).1 := hZ52.2.1.1.1
    intro a55 e55 ob55
    cases e55
    intro a56 e56 ob56
    obtain rfl : E 2 = a56 := Option.some.inj (hZ52.1.1.2.symm.trans e56)
    intro a57 e57 ob57
    cases e57
    have f58 : (fIC s52 (E 0) 242).toInt = zAt (accM z).1 := hZ52.2.1.1.1
    intro a59 e59 t59 v59
    obtain rfl : E 304 = a59 := Option.some.inj (hZ52.1.2.2.1.2.2.symm.trans e59)
    intro a60 e60 ob60
    cases e60
    intro a61 e61 ob61
    obtain rfl : E 1 = a61 := Option.some.inj (hZ52.1.1.1.symm.trans e61)
    rw [hZ52.1.2.1.2.1]
    try dsimp only
    intro w62 τ62 o62 q62
    obtain ⟨r62, rfl, rfl, hr62a, hr62b, hr62, -⟩ := (show Q_Jx4a65c_size_8abf5 [.inr (.inr (some (E 212)))] s52 w62 τ62 from o62.1.1)
    have hv62 : r62.toInt = ((zVs (accM z).1).length : Int) := by rw [← hr62]; exact hZ52.2.2.2.1.2.2.1.1
    try dsimp only [Option.toList, List.cons_append, List.nil_append, s1C, s2C, dlC, kyC, Nat.beq, lkC, rcd, rno, rsw]
    intro w63 τ63 o63 q63
    obtain ⟨rfl, hi⟩ := q63 (N, E, A, B, V, z) ⟨_, _, _, _, _, rfl, by rw [← hs52]; exact Nat.lt_succ_self _⟩
    have htg : ∀ a, a < cnC s52 → a ≠ cnC υ → tgC τ63 a = tgC s52 a := o63.1.1
    have hcs : cnC s52 = cnC υ + 1 := by rw [← hs52]; rfl
    have hct : cnC υ < cnC τ63 := Nat.lt_of_lt_of_le (by omega) hi.1.1
    have hg : ∀ a, a < cnC υ → ∀ k, fIC τ63 a k = fIC υ a k ∧ fLC τ63 a k = fLC υ a k ∧ fRC τ63 a k = fRC υ a k := fun a ha k => by
      have q1 := hi.1.2.1 a (by omega) (Nat.ne_of_lt ha) k
      have q2 : fIC s52 a k = fIC υ a k ∧ fLC s52 a k = fLC υ a k ∧ fRC s52 a k = fRC υ a k := by rw [← hs52]; exact nO_a (Nat.ne_of_lt ha)
      exact ⟨q1.1.trans q2.1, q1.2.1.trans q2.2.1, q1.2.2.trans q2.2.2⟩
    have he : ∀ a, a < cnC υ → eIC τ63 a = eIC υ a ∧ eLC τ63 a = eLC υ a ∧ eRC τ63 a = eRC υ a := fun a ha => by
      have q := hi.1.2.2 a (by omega)
      rw [← hs52] at q
      exact q
    have hP63 : ZC N E A B V (prS (E 0) τ63) (accM z) := ZC.np hP9 hT.1 hT.2 hg he (Nat.le_of_lt hct)
    have hZ63 := ZC.r1 hP63
    obtain ⟨r, hr1, hr2⟩ := hi.2.2
    have hr185 : fIC τ63 (cnC υ) 185 = 0 := by rw [hi.2.1.2.2.2.2, ← hs52]; exact nO_v.1
    have hwo : ((eLC s52 (E 304) (fIC s52 (E 0) 242).toNatClampNeg)).toInt = N (zAt (accM z).1) := by
      refine (hZ52.2.2.1.2 _).trans ?_
      exact congrArg N (by rw [nT_toNat]; omega)
    try dsimp only [Option.toList, List.cons_append, List.nil_append, s1C, s2C, dlC, kyC, Nat.beq, lkC, rcd, rno, rsw]
    intro a64 e64 ob64
    cases e64
    intro a65 e65 ob65
    obtain rfl : E 1 = a65 := Option.some.inj (hZ63.1.1.1.symm.trans e65)
    rw [hZ63.1.2.1.1]
    try dsimp only
    intro w66 τ66 o66 q66
    have hq66 : AdQ2 [.inr (.inr (some (E 211))), .inr (.inr (some (cnC υ)))] τ63 w66 τ66 := o66.1.1
    obtain ⟨⟨r66, rfl⟩, ⟨hH2, ht2⟩, ha1, ha2, ha3⟩ := hq66
    have hfr : FrE [0, 1, 2, 902] τ63 τ66 := o66.2
    have t8 : TyC τ63 (E 0) 8 := ⟨Nat.lt_of_lt_of_le hT.2.1 (Nat.le_of_lt hct), by rw [htg _ (by have := hT.2.1; omega) (Nat.ne_of_lt hT.2.1), ← hs52, tg_nO (Nat.ne_of_lt hT.2.1)]; exact hT.2.2.1, fun q => by cases q⟩
    have hls := EnC.ls hZ63.1 hH2 t8
    have hlt := hZ63.1.2.2.2.2.1
    have f2 := hfr.2 rfl
    have hpa : ∀ a, a < cnC τ63 → (∀ k, 3 ≤ k ∧ k < 900 → fIC τ66 a k = fIC τ63 a k ∧ fLC τ66 a k = fLC τ63 a k ∧ fRC τ66 a k = fRC τ63 a k) ∧ (eIC τ66 a = eIC τ63 a ∧ eLC τ66 a = eLC τ63 a) := fun a ha => ⟨fun k hk => (f2 a ha).1 k (by
      cases h9 : ([0, 1, 2, 902] : List Nat).elem k with
      | false => rfl
      | true =>
        have h8 := List.elem_iff.mp h9
        simp only [List.mem_cons, List.not_mem_nil, or_false] at h8
        omega), (f2 a ha).2.1 rfl, (f2 a ha).2.2.1 rfl⟩
    have hpo : PoX (cnC υ) υ τ66 := ⟨Nat.le_trans (Nat.le_of_lt hct) hfr.1, fun a ha _ k hk => by
      have p := hg a ha k
      have q := (hpa a (by omega)).1 k hk
      exact ⟨q.1.trans p.1, q.2.1.trans p.2.1, q.2.2.trans p.2.2⟩, fun a ha => by
      have q := (hpa a (by omega)).2
      exact ⟨q.1.trans (he a ha).1, q.2.trans (he a ha).2.1⟩⟩
    have l4 : LiC τ66 (E 211) ((zMs (accM z).1).length + 1) (fun k => E (1000 + k)) := by
      have q := LiC.ad hZ63.2.2.2.1.2.2.2 ha1 ha3 hfr.1 (Nat.lt_of_lt_of_le hct hfr.1)
      refine ⟨q.1, fun i hi9 => ?_⟩
      have q2 := q.2 i hi9
      by_cases c9 : i = (zMs (accM z).1).length
      · rw [c9, upA_e] at q2
        rw [c9]
        show elC _ _ _ = some (E (1000 + (zMs (accM z).1).length)) ∧ E (1000 + (zMs (accM z).1).length) < _
        rw [hEo]
        exact q2
      · rw [upA_n c9] at q2
        exact q2
    have hP66 : ZC N E A B V (prS (E 0) τ66) (metY (codY z.1 - 50) (accM z).1, (accM z).2) := ZC.me hP9 hpo.pr (Nat.le_refl _) (LiC.ao hZ63.2.2.2.1.1 ha2 ha3 hlt.2.2.1 hls.1.2.2.1 (fun q => hls.2.1.2.1 q.symm) hfr.1) (LiC.ao hZ63.2.2.2.1.2.1 ha2 ha3 hlt.2.2.2 hls.1.2.2.2 (fun q => hls.2.1.2.2 q.symm) hfr.1) (LiC.ao hZ63.2.2.2.1.2.2.1 ha2 ha3 hlt.2.1 hls.1.2.1 (fun q => hls.2.1.1 q.symm) hfr.1) l4
    have hZ66 := ZC.r1 hP66
    have hF66 : FzC (cnC σ) (xnM z) E A A B B V V z (metY (codY z.1 - 50) (accM z).1, (accM z).2) σ τ66 := FzC.tr hF9 (FzC.mo (FzC.me (n := cnC υ) (m := xnM z) hpo (Nat.le_refl _) (Nat.le_refl _) hR9.1.2.2.2.2.2.1.2.1) hle9 (Nat.le_refl _))
    have hle66 : cnC σ ≤ cnC τ66 := Nat.le_trans hle9 hpo.1
    have hk66 : MkX (cnC υ + 1) τ63 τ66 := MkX.fr hfr rfl rfl rfl rfl hct
    have hm66 : fRC τ66 (cnC υ) 183 = some r ∧ fIC τ66 (cnC υ) 185 = 0 ∧ cnC υ < cnC τ66 := by
      have q := (hpa (cnC υ) hct).1
      exact ⟨(q 183 (by decide)).2.2.trans hr2, (q 185 (by decide)).1.trans hr185, Nat.lt_of_lt_of_le hct hfr.1⟩
    try dsimp only [Option.toList, List.cons_append, List.nil_append, s1C, s2C, dlC, kyC, Nat.beq, lkC, rcd, rno, rsw]
    intro a67 e67 ob67
    cases e67
    intro a68 e68 ob68
    obtain rfl : E 2 = a68 := Option.some.inj (hZ66.1.1.2.symm.trans e68)
    intro a69 e69 ob69
    cases e69
    have f70 : (fIC τ66 (E 0) 242).toInt = zAt (metY (codY z.1 - 50) (accM z).1, (accM z).2).1 := hZ66.2.1.1.1
    have c71 : (Int32.ofInt 100).toInt = 100 := by decide
    have u72 := tiC (Int32.ofInt 100)
    have a72 : ((Int32.ofInt 100) + t2).toInt = 100 + t2.toInt := addC (by omega) (by omega) (by omega)
    intro a73 e73 t73 v73
    obtain rfl : E 303 = a73 := Option.some.inj (hZ66.1.2.2.1.2.1.symm.trans e73)
    generalize hs73 : qIC τ66 (E 303) (upd (eIC τ66 (E 303)) (fIC τ66 (E 0) 242).toNatClampNeg ((Int32.ofInt 100) + t2)) = s73
    have hP73 : ZC N E A B V (prS (E 0) s73) (metY (codY z.1 - 50) (accM z).1, (accM z).2) := by rw [← hs73]; exact ZC.mn (σ := prS (E 0) τ66) hP66
    have hZ73 := ZC.r1 hP73
    have hF73 := FzC.tr hF66 (show FzC (cnC σ) (xnM z) E A A B B V V (metY (codY z.1 - 50) (accM z).1, (accM z).2) (metY (codY z.1 - 50) (accM z).1, (accM z).2) τ66 s73 by rw [← hs73]; exact FzC.mn (by rw [nT_toNat]; omega))
    have hle73 : cnC σ ≤ cnC s73 := by rw [← hs73]; exact hle66
    have hk73 : MkX (cnC υ + 1) τ63 s73 := MkX.tr hk66 (by rw [← hs73]; exact ⟨fun _ _ => ⟨rfl, rfl, rfl⟩, Nat.le_refl _⟩)
    have hm73 : fRC s73 (cnC υ) 183 = some r ∧ fIC s73 (cnC υ) 185 = 0 ∧ cnC υ < cnC s73 := by rw [← hs73]; exact hm66
    intro w74 τ74 o74 q74
    obtain ⟨rfl, hP74, hf74⟩ := q74.2 (N, E, A, B, V, (metY (codY z.1 - 50) (accM z).1, (accM z).2)) ⟨rfl, hP73, (show zFt (accM (me0M (codY z.1 - 50) (accM z))).1 = 0 from hfa)⟩
    have hZ74 := ZC.r1 hP74
    have hF74 := FzC.tr hF73 (FzC.mo hf74 hle73 (hF73).2.2.1.1.1)
    have hle74 : cnC σ ≤ cnC τ74 := Nat.le_trans hle73 (hf74).1
    have hk74 : MkX (cnC υ + 1) τ63 τ74 := MkX.tr hk73 (MkX.fr o74.2 rfl rfl rfl rfl hm73.2.2)
    have hm74 : fRC τ74 (cnC υ) 183 = some r ∧ fIC τ74 (cnC υ) 185 = 0 ∧ cnC υ < cnC τ74 := by
      have q := (o74.2.2 rfl (cnC υ) hm73.2.2).1
      exact ⟨(q 183 rfl).2.2.trans hm73.1, (q 185 rfl).1.trans hm73.2.1, Nat.lt_of_lt_of_le hm73.2.2 o74.2.1⟩
    try dsimp only [Option.toList, List.cons_append, List.nil_append, s1C, s2C, dlC, kyC, Nat.beq, lkC, rcd, rno, rsw]
    intro a75 e75 ob75 fk75
    cases e75
    clear fk75 ob75
    generalize hs75 : pLC τ74 (E 0) 245 (Int64.ofNat ((0 : Fin 2) : Nat)) = s75
    have hk75 : MkX (cnC υ + 1) τ63 s75 := MkX.tr hk74 (by rw [← hs75]; exact ⟨fun _ _ => ⟨pL_k (show (181 : Nat) ≠ 245 by decide), rfl, rfl⟩, Nat.le_refl _⟩)
    have hm75 : fRC s75 (cnC υ) 183 = some r ∧ fIC s75 (cnC υ) 185 = 0 ∧ cnC υ < cnC s75 := by rw [← hs75]; exact hm74
    intro a76 e76 ob76 fk76
    cases e76
    clear fk76 ob76
    generalize hs76 : pRC s75 (E 0) 246 none = s76
    have hZ76 : ZC N E A B V s76 (accM (metY (codY z.1 - 50) (accM z).1, (accM z).2)) := by rw [← hs76, ← hs75]; exact hP74
    have hF76 : FzC (cnC σ) (xnM z) E A A B B V V z (accM (metY (codY z.1 - 50) (accM z).1, (accM z).2)) σ s76 := by
      rw [← hs76]
      refine FzC.ar (j := (-1)) (z := (accM (metY (codY z.1 - 50) (accM z).1, (accM z).2))) ?_
      rw [← hs75]
      exact FzC.kn hF74 ⟨rfl, rfl, rfl⟩
    have hle76 : cnC σ ≤ cnC s76 := by rw [← hs76, ← hs75]; exact hle74
    have hk76 : MkX (cnC υ + 1) τ63 s76 := MkX.tr hk75 (by rw [← hs76]; exact ⟨fun _ _ => ⟨rfl, rfl, pR_k (show (186 : Nat) ≠ 246 by decide)⟩, Nat.le_refl _⟩)
    have hm76 : fRC s76 (cnC υ) 183 = some r ∧ (fIC s76 (cnC υ) 185).toInt = 0 ∧ cnC υ < cnC s76 := by
      have q := hm75
      refine ⟨?_, ?_, ?_⟩
      · rw [← hs76]; exact (pR_k (show (183 : Nat) ≠ 246 by decide)).trans q.1
      · rw [← hs76]; show (fIC s75 (cnC υ) 185).toInt = 0; rw [q.2.1]; rfl
      · rw [← hs76]; exact q.2.2
    have heq4 : thM (accM (metY (codY z.1 - 50) (accM z).1, (accM z).2)) = (accM (me0M (codY z.1 - 50) (accM z))) := by
      show (_, _, _, z.2.2.2.1, _) = (_, _, _, ([], -1), _)
      rw [hzk]
      rfl
    have hZ77 : ZC N E A B V s76 (accM (me0M (codY z.1 - 50) (accM z))) := (by rw [← heq4]; exact ZC.th (z := (accM (metY (codY z.1 - 50) (accM z).1, (accM z).2))) hZ76)
    have hF77 : FzC (cnC σ) (xnM z) E A A B B V V z (accM (me0M (codY z.1 - 50) (accM z))) σ s76 := (by rw [← heq4]; exact FzC.th (z := (accM (metY (codY z.1 - 50) (accM z).1, (accM z).2))) hF76)
    intro w78 τ78 o78 q78
    have hrr : r ≠ E 302 ∧ r ≠ E 303 := by
      have q := hR9.1.2.2.2.2.2.1
      have q1 := q.1
      have q2 := q.2.1
      have q3 := hr1.1
      omega
    obtain ⟨rfl, V78, hZ78, hf78⟩ := q78 (N, E, A, B, V, (accM (me0M (codY z.1 - 50) (accM z))), r) ⟨_, rfl, hZ77, hm76, hrr, hfp⟩
    have hF78 := FzC.tr hF77 (FzC.mo hf78 hle76 (hF77).2.2.1.1.1)
    have hle78 : cnC σ ≤ cnC τ78 := Nat.le_trans hle76 (hf78).1
    have hk78 : MkX (cnC υ + 1) τ63 τ78 := MkX.tr hk76 (MkX.fr o78.2 rfl rfl rfl rfl hm76.2.2)
    try dsimp only [Option.toList, List.cons_append, List.nil_append, s1C, s2C, dlC, kyC, Nat.beq, lkC, rcd, rno, rsw]
    have c79 : (Int32.ofInt 0).toInt = 0 := by decide
    intro w80 τ80 o80 q80
    have hfb2 : zFt (boM (rwM N (21 - 1)) 21 (paM N (accM (me0M (codY z.1 - 50) (accM z)))).2.2.2.1.1 (paM N (accM (me0M (codY z.1 - 50) (accM z))))).1 = 0 := by
      rw [lf_bo lf_rw]
      have h8 := hfb
      rw [lf_bo lf_rw] at h8
      exact h8
    obtain ⟨A80, B80, V80, rfl, hZ80, hf80, hsb80⟩ : SeQ N E A B V78 (paM N (accM (me0M (codY z.1 - 50) (accM z)))) (boM (rwM N (21 - 1)) 21 (paM N (accM (me0M (codY z.1 - 50) (accM z)))).2.2.2.1.1 (paM N (accM (me0M (codY z.1 - 50) (accM z))))) τ78 w80 τ80 := q80 (N, E, A, B, V78, (paM N (accM (me0M (codY z.1 - 50) (accM z)))), 21) ⟨_, rfl, hZ78, by omega, by omega, hfb2⟩
    have hF80 := FzC.tr hF78 (FzC.mo hf80 hle78 (hF78).2.2.1.1.1)
    have hle80 : cnC σ ≤ cnC τ80 := Nat.le_trans hle78 (hf80).1
    have hk80 : MkX (cnC υ + 1) τ63 τ80 := MkX.tr hk78 (MkX.fr o80.2 rfl rfl rfl rfl (Nat.le_trans hct hk78.2))
    try dsimp only [Option.toList, List.cons_append, List.nil_append, s1C, s2C, dlC, kyC, Nat.beq, lkC, rcd, rno, rsw]
    intro a81 e81 ob81 fk81
    cases e81
    clear fk81 ob81
    generalize hs81 : pRC τ80 (cnC υ) 186 (some (B80 (snM (paM N (accM (me0M (codY z.1 - 50) (accM z))))))) = s81
    try dsimp only [Qz_readMethod]
    intro τ hwe
    have hZe : ZC N E A80 B80 V80 τ (skM (paM N (accM (me0M (codY z.1 - 50) (accM z)))).2.2.2.1.1 (meM N z)) := by
      refine ZC.we ?_ hwe
      rw [← hs81, eM]
      exact ZC.co (z := skM (paM N (accM (me0M (codY z.1 - 50) (accM z)))).2.2.2.1.1 (boM (rwM N 20) 21 [] (paM N (accM (me0M (codY z.1 - 50) (accM z)))))) (ZC.m6 (bo_sk hZ80))
    have hsP : snM (paM N (accM (me0M (codY z.1 - 50) (accM z)))) = snM z := by
      show (paM N (accM (me0M (codY z.1 - 50) (accM z)))).2.2.1.1 = _
      rw [pa_k.2.1]
      rfl
    have hsB : snM z < snM (rsM (meM N z)) := by
      rw [eM]
      show snM z < snM (boM (rwM N (21 - 1)) 21 (paM N (accM (me0M (codY z.1 - 50) (accM z)))).2.2.2.1.1 (paM N (accM (me0M (codY z.1 - 50) (accM z)))))
      rw [← hsP]
      exact hsb80
    have hfr9 : ∀ a, fLC τ a 181 = fLC τ80 a 181 ∧ fIC τ a 184 = fIC τ80 a 184 ∧ (a ≠ cnC υ → fRC τ a 186 = fRC τ80 a 186) := fun a => by
      rw [we_l hwe, we_i hwe, we_r hwe, ← hs81]
      exact ⟨rfl, rfl, fun q => pR_m q⟩
    refine ⟨rfl, E, A80, B80, V80, hEp, ZC.rs hZe, fun k hk => ?_⟩
    have hk2 : k < (zMs z.1).length + 1 := by
      have q := hk
      rw [show (rsM (meM N z)).1 = (meM N z).1 from rfl, hlk.mt.1] at q
      rw [← hms]
      exact q
    have hnm : (mth (rsM (meM N z)).1 k).1 = (mth (metY (codY z.1 - 50) (accM z).1) k).1 := congrArg (fun q : Int × Int => q.1) (hlk.mt.2 k)
    rw [hnm]
    by_cases c9 : k < (zMs z.1).length
    · have ck : k < (zMs (accM z).1).length := by rw [hms]; exact c9
      have q := hM k ck
      have a := (hR9.2.2.2.1.2.2.2.2 k ck).2
      have f := hk80.1 _ (Nat.lt_succ_of_lt a)
      have g1 := hg (E (1000 + k)) a 181
      have g2 := hg (E (1000 + k)) a 184
      have g3 := hg (E (1000 + k)) a 186
      have h := hfr9 (E (1000 + k))
      rw [upA_n (Nat.ne_of_lt c9), upA_n (Nat.ne_of_lt c9), mth_o ck, h.1, h.2.1, h.2.2 (Nat.ne_of_lt a), f.1, f.2.1, f.2.2, g1.2.1, g2.1, g3.2.2]
      refine ⟨q.1, q.2.1, ?_, Nat.lt_trans q.2.2.2 hsB⟩
      rw [q.2.2.1, (hF80.2.2.2.1.1.2 (J k) q.2.2.2).1]
    · obtain rfl : k = (zMs z.1).length := by omega
      have h := hfr9 (cnC υ)
      have f := hk80.1 (cnC υ) (Nat.lt_succ_self _)
      have em : mth (metY (codY z.1 - 50) (accM z).1) (zMs z.1).length = (zAt (accM z).1, (codY z.1 - 50), []) := by rw [← hms]; exact mth_n
      have eo : E (1000 + (zMs z.1).length) = cnC υ := by rw [← hms]; exact hEo
      rw [upA_e, upA_e, em, eo, h.1, h.2.1, f.1, f.2.1, hi.2.1.2.1, hi.2.1.2.2.2.1]
      refine ⟨hwo, by rw [← hvs]; omega, ?_, hsB⟩
      rw [we_r hwe, ← hs81, pR_e, hsP]
  rw [← hEe]
  change K n_ 0 [(0, .inr (.inr (some (E 0))))] [] σ
  refine hB _ _ _ _ _ (fun m51 hm51 => ?_)
  dsimp only [ucgo, ucwp, ucsC, uqC, uoC, ctC, rfd, KX7_readMethod, KX7_readMethod_0, KX7_readMethod_18, KX7_readMethod_27, KX7_readMethod_32, KX7_readMethod_56, KX7_readMethod_64, KX7_readMethod_70, KX7_readMethod_75, KX7_readMethod_82, KX7_readMethod_83, lkC, s1C, s2C, dlC, kyC, Nat.beq, Nat.ble, rcd, rno, rsw, Nat.reduceAdd, Nat.reduceBEq, Nat.reduceDiv, List.drop, List.take, List.reverse, List.reverseAux, Int.toNat, Option.toList, List.append, List.cons_append, List.nil_append, zg211, zg212, zg240, zg241, zg242, zg243, zg303, zg304]
  intro w52 τ52 o52 q52
  obtain ⟨c52, rfl, hc52, rfl⟩ := q52.2 (N, E, A, B, V, z) ⟨rfl, hZ⟩
  try dsimp only [Option.toList, List.cons_append, List.nil_append, s1C, s2C, dlC, kyC, Nat.beq, lkC, rcd, rno, rsw]
  have c53 : (Int32.ofInt 50).toInt = 50 := by decide
  have u54 := tiC c52
  have a54 : (c52 - (Int32.ofInt 50)).toInt = codY z.1 - 50 := subC (by omega) (by omega) (by omega)
  intro w55 τ55 o55 q55
  obtain ⟨c55, rfl, hc55, rfl⟩ := q55.2 (N, E, A, B, V, z) ⟨rfl, hZ⟩
  try dsimp only [Option.toList, List.cons_append, List.nil_append, s1C, s2C, dlC, kyC, Nat.beq, lkC, rcd, rno, rsw]
  intro w56 τ56 o56 q56
  have qq56 := q56 (N, E, A, B, V, z) ⟨_, rfl⟩
  obtain ⟨r56, rfl, hr56, rfl⟩ : ∃ r, w56 = some (.inl r) ∧ ((r.toInt = 1 ∧ (50 ≤ (c55 : Int32).toInt ∧ (c55 : Int32).toInt ≤ 54)) ∨ (r.toInt = 0 ∧ ¬ (50 ≤ (c55 : Int32).toInt ∧ (c55 : Int32).toInt ≤ 54))) ∧ σ = τ56 := by
    rcases qq56 with ⟨r, h1, h2, h3, h4⟩ | ⟨r, h1, h2, h3, h4⟩
    · exact ⟨r, h1, Or.inl ⟨h2, h3⟩, h4⟩
    · exact ⟨r, h1, Or.inr ⟨h2, h3⟩, h4⟩
  try dsimp only [Option.toList, List.cons_append, List.nil_append, s1C, s2C, dlC, kyC, Nat.beq, lkC, rcd, rno, rsw]
  refine ⟨fun h57 => ?_, fun h57 => ?_⟩
  · have g57 := (neI (x := r56) (y := 0) h57 : ¬ (r56 : Int32).toInt = (0 : Int32).toInt)
    have z0_ : (0 : Int32).toInt = 0 := rfl
    refine hB _ _ _ _ _ (fun m58 hm58 => ?_)
    dsimp only [ucgo, ucwp, ucsC, uqC, uoC, ctC, rfd, KX7_readMethod, KX7_readMethod_0, KX7_readMethod_18, KX7_readMethod_27, KX7_readMethod_32, KX7_readMethod_56, KX7_readMethod_64, KX7_readMethod_70, KX7_readMethod_75, KX7_readMethod_82, KX7_readMethod_83, lkC, s1C, s2C, dlC, kyC, Nat.beq, Nat.ble, rcd, rno, rsw, Nat.reduceAdd, Nat.reduceBEq, Nat.reduceDiv, List.drop, List.take, List.reverse, List.reverseAux, Int.toNat, Option.toList, List.append, List.cons_append, List.nil_append, zg211, zg212, zg240, zg241, zg242, zg243, zg303, zg304]
    intro w59 τ59 o59 q59
    obtain ⟨rfl, hP59, hf59⟩ := q59.2 (N, E, A, B, V, z) ⟨rfl, hZ, hy⟩
    have hZ59 := ZC.r1 hP59
    have hF59 := FzC.tr (FzC.rf (n := cnC σ) (m := xnM z) (E := E) (A := A) (B := B) (V := V) (z := z) (σ := σ)) (FzC.mo hf59 (Nat.le_refl (cnC σ)) ((FzC.rf (n := cnC σ) (m := xnM z) (E := E) (A := A) (B := B) (V := V) (z := z) (σ := σ))).2.2.1.1.1)
    have hle59 : cnC σ ≤ cnC τ59 := Nat.le_trans (Nat.le_refl (cnC σ)) (hf59).1
    try dsimp only [Option.toList, List.cons_append, List.nil_append, s1C, s2C, dlC, kyC, Nat.beq, lkC, rcd, rno, rsw]
    intro a60 e60 ob60
    cases e60
    intro a61 e61 ob61
    obtain rfl : E 1 = a61 := Option.some.inj (hZ59.1.1.1.symm.trans e61)
    rw [hZ59.1.2.1.1]
    try dsimp only
    intro w62 τ62 o62 q62
    obtain ⟨r62, rfl, rfl, hr62a, hr62b, hr62, -⟩ := (show Q_Jx4a65c_size_8abf5 [.inr (.inr (some (E 211)))] τ59 w62 τ62 from o62.1.1)
    have hv62 : r62.toInt = ((zMs (accM z).1).length : Int) := by rw [← hr62]; exact hZ59.2.2.2.1.2.2.2.1
    try dsimp only [Option.toList, List.cons_append, List.nil_append, s1C, s2C, dlC, kyC, Nat.beq, lkC, rcd, rno, rsw]
    intro w63 τ63 o63 q63
    obtain ⟨c63, rfl, hc63, rfl⟩ := q63.2 (N, E, A, B, V, (accM z)) ⟨rfl, hP59⟩
    try dsimp only [Option.toList, List.cons_append, List.nil_append, s1C, s2C, dlC, kyC, Nat.beq, lkC, rcd, rno, rsw]
    have c64 : (Int32.ofInt 80).toInt = 80 := by decide
    refine ⟨fun h65 => ?_, fun h65 => ?_⟩
    · have g65 := (eqI (x := c63) (y := (Int32.ofInt 80)) h65 : (c63 : Int32).toInt = ((Int32.ofInt 80) : Int32).toInt)
      refine hB _ _ _ _ _ (fun m66 hm66 => ?_)
      dsimp only [ucgo, ucwp, ucsC, uqC, uoC, ctC, rfd, KX7_readMethod, KX7_readMethod_0, KX7_readMethod_18, KX7_readMethod_27, KX7_readMethod_32, KX7_readMethod_56, KX7_readMethod_64, KX7_readMethod_70, KX7_readMethod_75, KX7_readMethod_82, KX7_readMethod_83, lkC, s1C, s2C, dlC, kyC, Nat.beq, Nat.ble, rcd, rno, rsw, Nat.reduceAdd, Nat.reduceBEq, Nat.reduceDiv, List.drop, List.take, List.reverse, List.reverseAux, Int.toNat, Option.toList, List.append, List.cons_append, List.nil_append, zg211, zg212, zg240, zg241, zg242, zg243, zg303, zg304]
      have c67 : (Int32.ofInt 10).toInt = 10 := by decide
      refine ⟨fun h68 => ?_, fun h68 => ?_⟩
      · have g68 := ltI (x := r62) (y := (Int32.ofInt 10)) h68
        refine hB _ _ _ _ _ (fun m69 hm69 => ?_)
        dsimp only [ucgo, ucwp, ucsC, uqC, uoC, ctC, rfd, KX7_readMethod, KX7_readMethod_0, KX7_readMethod_18, KX7_readMethod_27, KX7_readMethod_32, KX7_readMethod_56, KX7_readMethod_64, KX7_readMethod_70, KX7_readMethod_75, KX7_readMethod_82, KX7_readMethod_83, lkC, s1C, s2C, dlC, kyC, Nat.beq, Nat.ble, rcd, rno, rsw, Nat.reduceAdd, Nat.reduceBEq, Nat.reduceDiv, List.drop, List.take, List.reverse, List.reverseAux, Int.toNat, Option.toList, List.append, List.cons_append, List.nil_append, zg211, zg212, zg240, zg241, zg242, zg243, zg303, zg304]
        intro a70 e70 ob70
        cases e70
        have f71 : (fIC τ59 (E 0) 243).toInt = zFt (accM z).1 := hZ59.2.1.1.2
        refine ⟨fun h72 => ?_, fun h72 => ?_⟩
        · have g72 := (eqI (x := (fIC τ59 (E 0) 243)) (y := 0) h72 : ((fIC τ59 (E 0) 243) : Int32).toInt = (0 : Int32).toInt)
          have z0_ : (0 : Int32).toInt = 0 := rfl
          have hT83 : HI0 τ59 ∧ TyC τ59 (E 0) 8 := o63.1.1
          have hM83 : MhC N E B J F τ59 (accM z) := fun k hk => by
            rw [hms] at hk
            have q := hMo k hk
            have a := (hR.2.2.2.1.2.2.2.2 k hk).2
            have f := (MkX.fr (c := cnC σ) o59.2 rfl rfl rfl rfl (Nat.le_refl _)).1 _ a
            have em : mth (accM z).1 k = mth z.1 k := by unfold mth; rw [hms]
            rw [em, f.1, f.2.1, f.2.2]
            exact q
          have e83 : ∀ k, k < 1000 + (zMs (accM z).1).length → upA E (1000 + (zMs (accM z).1).length) (cnC τ59) k = E k := fun k hk => upA_n (by omega)
          have L := fun k9 => L83 k9 _ (upA E (1000 + (zMs (accM z).1).length) (cnC τ59)) (c52 - (Int32.ofInt 50)) r62 (by rw [e83 0 (by omega)]; exact ZC.eE hP59 e83) (FzC.eE hF59 (e83 303 (by omega))) hle59 (by rw [e83 0 (by omega)]; exact hT83) (fun k hk => by
            rw [e83 (1000 + k) (by omega)]
            exact hM83 k hk) (fun k hk => by rw [e83 k (by rw [hms]; omega)]; exact hEk k) upA_e (by omega) (by omega)
          rw [e83 0 (by omega)] at L
          exact hW _ 83 [(0, .inr (.inr (some (E 0)))), (1, .inl (c52 - (Int32.ofInt 50))), (2, .inl r62)] _ _ _ (List.forall_mem_cons.2 ⟨List.Mem.tail _ (List.Mem.tail _ (List.Mem.head _)), List.forall_mem_cons.2 ⟨List.Mem.tail _ (List.Mem.head _), List.forall_mem_cons.2 ⟨List.Mem.head _, fun _ h => absurd h List.not_mem_nil⟩⟩⟩) (L _)
        · have g72 := (neI (x := (fIC τ59 (E 0) 243)) (y := 0) h72 : ¬ ((fIC τ59 (E 0) 243) : Int32).toInt = (0 : Int32).toInt)
          have z0_ : (0 : Int32).toInt = 0 := rfl
          exfalso
          omega
      · have g68 := nltI (x := r62) (y := (Int32.ofInt 10)) h68
        exfalso
        omega
    · have g65 := (neI (x := c63) (y := (Int32.ofInt 80)) h65 : ¬ (c63 : Int32).toInt = ((Int32.ofInt 80) : Int32).toInt)
      exfalso
      omega
  · have g57 := (eqI (x := r56) (y := 0) h57 : (r56 : Int32).toInt = (0 : Int32).toInt)
    have z0_ : (0 : Int32).toInt = 0 := rfl
    refine hB _ _ _ _ _ (fun m73 hm73 => ?_)
    dsimp only [ucgo, ucwp, ucsC, uqC, uoC, ctC, rfd, KX7_readMethod, KX7_readMethod_0, KX7_readMethod_18, KX7_readMethod_27, KX7_readMethod_32, KX7_readMethod_56, KX7_readMethod_64, KX7_readMethod_70, KX7_readMethod_75, KX7_readMethod_82, KX7_readMethod_83, lkC, s1C, s2C, dlC, kyC, Nat.beq, Nat.ble, rcd, rno, rsw, Nat.reduceAdd, Nat.reduceBEq, Nat.reduceDiv, List.drop, List.take, List.reverse, List.reverseAux, Int.toNat, Option.toList, List.append, List.cons_append, List.nil_append, zg211, zg212, zg240, zg241, zg242, zg243, zg303, zg304]
    intro w74 τ74 o74 q74
    obtain ⟨c74, rfl, hc74, rfl⟩ := q74.2 (N, E, A, B, V, z) ⟨rfl, hZ⟩
    try dsimp only [Option.toList, List.cons_append, List.nil_append, s1C, s2C, dlC, kyC, Nat.beq, lkC, rcd, rno, rsw]
    have c75 : (Int32.ofInt 55).toInt = 55 := by decide
    refine ⟨fun h76 => ?_, fun h76 => ?_⟩
    · have g76 := (eqI (x := c74) (y := (Int32.ofInt 55)) h76 : (c74 : Int32).toInt = ((Int32.ofInt 55) : Int32).toInt)
      refine hB _ _ _ _ _ (fun m77 hm77 => ?_)
      dsimp only [ucgo, ucwp, ucsC, uqC, uoC, ctC, rfd, KX7_readMethod, KX7_readMethod_0, KX7_readMethod_18, KX7_readMethod_27, KX7_readMethod_32, KX7_readMethod_56, KX7_readMethod_64, KX7_readMethod_70, KX7_readMethod_75, KX7_readMethod_82, KX7_readMethod_83, lkC, s1C, s2C, dlC, kyC, Nat.beq, Nat.ble, rcd, rno, rsw, Nat.reduceAdd, Nat.reduceBEq, Nat.reduceDiv, List.drop, List.take, List.reverse, List.reverseAux, Int.toNat, Option.toList, List.append, List.cons_append, List.nil_append, zg211, zg212, zg240, zg241, zg242, zg243, zg303, zg304]
      intro w78 τ78 o78 q78
      obtain ⟨rfl, hP78, hf78⟩ := q78.2 (N, E, A, B, V, z) ⟨rfl, hZ, hy⟩
      have hZ78 := ZC.r1 hP78
      have hF78 := FzC.tr (FzC.rf (n := cnC σ) (m := xnM z) (E := E) (A := A) (B := B) (V := V) (z := z) (σ := σ)) (FzC.mo hf78 (Nat.le_refl (cnC σ)) ((FzC.rf (n := cnC σ) (m := xnM z) (E := E) (A := A) (B := B) (V := V) (z := z) (σ := σ))).2.2.1.1.1)
      have hle78 : cnC σ ≤ cnC τ78 := Nat.le_trans (Nat.le_refl (cnC σ)) (hf78).1
      try dsimp only [Option.toList, List.cons_append, List.nil_append, s1C, s2C, dlC, kyC, Nat.beq, lkC, rcd, rno, rsw]
      intro a79 e79 ob79
      cases e79
      intro a80 e80 ob80
      obtain rfl : E 1 = a80 := Option.some.inj (hZ78.1.1.1.symm.trans e80)
      rw [hZ78.1.2.1.1]
      try dsimp only
      intro w81 τ81 o81 q81
      obtain ⟨r81, rfl, rfl, hr81a, hr81b, hr81, -⟩ := (show Q_Jx4a65c_size_8abf5 [.inr (.inr (some (E 211)))] τ78 w81 τ81 from o81.1.1)
      have hv81 : r81.toInt = ((zMs (accM z).1).length : Int) := by rw [← hr81]; exact hZ78.2.2.2.1.2.2.2.1
      try dsimp only [Option.toList, List.cons_append, List.nil_append, s1C, s2C, dlC, kyC, Nat.beq, lkC, rcd, rno, rsw]
      intro w82 τ82 o82 q82
      obtain ⟨c82, rfl, hc82, rfl⟩ := q82.2 (N, E, A, B, V, (accM z)) ⟨rfl, hP78⟩
      try dsimp only [Option.toList, List.cons_append, List.nil_append, s1C, s2C, dlC, kyC, Nat.beq, lkC, rcd, rno, rsw]
      have c83 : (Int32.ofInt 80).toInt = 80 := by decide
      refine ⟨fun h84 => ?_, fun h84 => ?_⟩
      · have g84 := (eqI (x := c82) (y := (Int32.ofInt 80)) h84 : (c82 : Int32).toInt = ((Int32.ofInt 80) : Int32).toInt)
        refine hB _ _ _ _ _ (fun m85 hm85 => ?_)
        dsimp only [ucgo, ucwp, ucsC, uqC, uoC, ctC, rfd, KX7_readMethod, KX7_readMethod_0, KX7_readMethod_18, KX7_readMethod_27, KX7_readMethod_32, KX7_readMethod_56, KX7_readMethod_64, KX7_readMethod_70, KX7_readMethod_75, KX7_readMethod_82, KX7_readMethod_83, lkC, s1C, s2C, dlC, kyC, Nat.beq, Nat.ble, rcd, rno, rsw, Nat.reduceAdd, Nat.reduceBEq, Nat.reduceDiv, List.drop, List.take, List.reverse, List.reverseAux, Int.toNat, Option.toList, List.append, List.cons_append, List.nil_append, zg211, zg212, zg240, zg241, zg242, zg243, zg303, zg304]
        have c86 : (Int32.ofInt 10).toInt = 10 := by decide
        refine ⟨fun h87 => ?_, fun h87 => ?_⟩
        · have g87 := ltI (x := r81) (y := (Int32.ofInt 10)) h87
          refine hB _ _ _ _ _ (fun m88 hm88 => ?_)
          dsimp only [ucgo, ucwp, ucsC, uqC, uoC, ctC, rfd, KX7_readMethod, KX7_readMethod_0, KX7_readMethod_18, KX7_readMethod_27, KX7_readMethod_32, KX7_readMethod_56, KX7_readMethod_64, KX7_readMethod_70, KX7_readMethod_75, KX7_readMethod_82, KX7_readMethod_83, lkC, s1C, s2C, dlC, kyC, Nat.beq, Nat.ble, rcd, rno, rsw, Nat.reduceAdd, Nat.reduceBEq, Nat.reduceDiv, List.drop, List.take, List.reverse, List.reverseAux, Int.toNat, Option.toList, List.append, List.cons_append, List.nil_append, zg211, zg212, zg240, zg241, zg242, zg243, zg303, zg304]
          intro a89 e89 ob89
          cases e89
          have f90 : (fIC τ78 (E 0) 243).toInt = zFt (accM z).1 := hZ78.2.1.1.2
          refine ⟨fun h91 => ?_, fun h91 => ?_⟩
          · have g91 := (eqI (x := (fIC τ78 (E 0) 243)) (y := 0) h91 : ((fIC τ78 (E 0) 243) : Int32).toInt = (0 : Int32).toInt)
            have z0_ : (0 : Int32).toInt = 0 := rfl
            have hT83 : HI0 τ78 ∧ TyC τ78 (E 0) 8 := o82.1.1
            have hM83 : MhC N E B J F τ78 (accM z) := fun k hk => by
              rw [hms] at hk
              have q := hMo k hk
              have a := (hR.2.2.2.1.2.2.2.2 k hk).2
              have f := (MkX.fr (c := cnC σ) o78.2 rfl rfl rfl rfl (Nat.le_refl _)).1 _ a
              have em : mth (accM z).1 k = mth z.1 k := by unfold mth; rw [hms]
              rw [em, f.1, f.2.1, f.2.2]
              exact q
            have e83 : ∀ k, k < 1000 + (zMs (accM z).1).length → upA E (1000 + (zMs (accM z).1).length) (cnC τ78) k = E k := fun k hk => upA_n (by omega)
            have L := fun k9 => L83 k9 _ (upA E (1000 + (zMs (accM z).1).length) (cnC τ78)) (c52 - (Int32.ofInt 50)) r81 (by rw [e83 0 (by omega)]; exact ZC.eE hP78 e83) (FzC.eE hF78 (e83 303 (by omega))) hle78 (by rw [e83 0 (by omega)]; exact hT83) (fun k hk => by
              rw [e83 (1000 + k) (by omega)]
              exact hM83 k hk) (fun k hk => by rw [e83 k (by rw [hms]; omega)]; exact hEk k) upA_e (by omega) (by omega)
            rw [e83 0 (by omega)] at L
            exact hW _ 83 [(0, .inr (.inr (some (E 0)))), (1, .inl (c52 - (Int32.ofInt 50))), (2, .inl r81)] _ _ _ (List.forall_mem_cons.2 ⟨List.Mem.tail _ (List.Mem.tail _ (List.Mem.head _)), List.forall_mem_cons.2 ⟨List.Mem.tail _ (List.Mem.head _), List.forall_mem_cons.2 ⟨List.Mem.head _, fun _ h => absurd h List.not_mem_nil⟩⟩⟩) (L _)
          · have g91 := (neI (x := (fIC τ78 (E 0) 243)) (y := 0) h91 : ¬ ((fIC τ78 (E 0) 243) : Int32).toInt = (0 : Int32).toInt)
            have z0_ : (0 : Int32).toInt = 0 := rfl
            exfalso
            omega
        · have g87 := nltI (x := r81) (y := (Int32.ofInt 10)) h87
          exfalso
          omega
      · have g84 := (neI (x := c82) (y := (Int32.ofInt 80)) h84 : ¬ (c82 : Int32).toInt = ((Int32.ofInt 80) : Int32).toInt)
        exfalso
        omega
    · have g76 := (neI (x := c74) (y := (Int32.ofInt 55)) h76 : ¬ (c74 : Int32).toInt = ((Int32.ofInt 55) : Int32).toInt)
      exfalso
      omega
theorem wz_readMethod : ∀ (L : Nat) (As : List AvC) (σ : CsC) (w : Option AvC) (τ : CsC), EvF L 134 As σ w τ → Uz_readMethod As σ w τ := by
  intro L
  cases L with
  | zero => exact fun _ _ _ _ h => h.elim
  | succ L => exact fun As σ w τ h y hy => EvF.us (cs := [125, 132, 128, 234, 111, 236, 135, 143, 127]) (pz_readMethod y) rfl (List.forall_mem_cons.2 ⟨wz_code9 L, List.forall_mem_cons.2 ⟨wz_isType L, List.forall_mem_cons.2 ⟨wz_accept9 L, List.forall_mem_cons.2 ⟨fun _ _ _ _ _ => trivial, List.forall_mem_cons.2 ⟨wz_Method L, List.forall_mem_cons.2 ⟨fun _ _ _ _ _ => trivial, List.forall_mem_cons.2 ⟨wz_readParams L, List.forall_mem_cons.2 ⟨wz_readBody L, List.forall_mem_cons.2 ⟨fun _ _ _ _ _ => trivial, fun _ h => absurd h List.not_mem_nil⟩⟩⟩⟩⟩⟩⟩⟩⟩) h hy
