/-! the number of methods stays -/
def LpY (s t : SpC) : Prop := (zMs t).length = (zMs s).length ∧ True
theorem LpY.rf {s : SpC} : LpY s s := ⟨rfl, trivial⟩
theorem LpY.tr {s t u : SpC} (h : LpY s t) (g : LpY t u) : LpY s u := ⟨g.1.trans h.1, trivial⟩
abbrev GlY (f : SpC → SpC) : Prop := ∀ s, LpY s (f s)
theorem LpY.s2 {s t : SpC} (h : t.2.1.1 = s.2.1.1) : LpY s t := ⟨by unfold zMs; rw [h], trivial⟩
theorem gl_rai {n : Int} : GlY (raiY n) := by
  intro s
  refine LpY.s2 ?_
  unfold raiY
  split <;> rfl
theorem gl_acc : GlY accY := by
  intro s
  unfold accY
  split
  · exact gl_rai s
  · split <;> exact LpY.s2 rfl
theorem gl_vad {ty f : Int} : GlY (vadY ty f) := fun _ => LpY.s2 rfl
theorem gl_pad {ty : Int} : GlY (padY ty) := by
  intro s
  refine ⟨?_, trivial⟩
  show (match zMs s with
    | [] => []
    | (a, b, l) :: r => (a, b, ty :: l) :: r).length = _
  cases zMs s with
  | nil => rfl
  | cons x r => rfl
def PlY (s t : SpC) : Prop := LpY s t ∧ True
theorem PlY.l {s t u : SpC} (h : PlY s t) (g : LpY t u) : PlY s u := ⟨h.1.tr g, trivial⟩
theorem PlY.r {s t u : SpC} (g : LpY s t) (h : PlY t u) : PlY s u := ⟨g.tr h.1, trivial⟩
theorem pl_acc {s : SpC} : PlY s (accY s) := ⟨gl_acc s, trivial⟩
theorem pl_rai {n : Int} {s : SpC} (hn : ¬ n = 0) : PlY s (raiY n s) := ⟨gl_rai s, trivial⟩
theorem gl_xp {c : Int} : GlY (xpY c) := by
  intro s
  unfold xpY
  split
  · exact gl_acc s
  · exact gl_rai s
theorem gl_typ : GlY typY := by
  intro s
  unfold typY
  split
  · exact gl_acc s
  · exact gl_rai s
theorem gl_dc1 {h : Int} : GlY (dc1Y h) := by
  intro s
  unfold dc1Y
  split
  · split
    · exact gl_rai s
    · exact LpY.rf
  · exact gl_rai s
theorem gl_dc2 {ty f : Int} : GlY (dc2Y ty f) := by
  intro s
  unfold dc2Y
  split
  · exact (gl_vad s).tr (gl_acc _)
  · exact LpY.rf
theorem gl_dcl {ty f h : Int} : GlY (dclY ty f h) := fun s => (gl_dc1 s).tr (gl_dc2 _)
theorem gl_clp {E : SpC → SpC} (hE : GlY E) : ∀ n, GlY (clpY E n) := by
  intro n
  induction n with
  | zero => exact fun s => LpY.rf
  | succ n ih =>
    intro s
    rw [clpY]
    split
    · exact (gl_acc s).tr ((hE _).tr (ih _))
    · exact LpY.rf
theorem gl_chl {E : SpC → SpC} (hE : GlY E) : ∀ n, GlY (chlY E n) := by
  intro n
  induction n with
  | zero => exact fun s => LpY.rf
  | succ n ih =>
    intro s
    rw [chlY]
    split
    · exact (gl_acc s).tr ((hE _).tr (ih _))
    · exact LpY.rf
theorem gl_opr {m : Nat} {E I : SpC → SpC} (hE : GlY E) (hI : GlY I) : GlY (oprY m E I) := by
  intro s
  unfold oprY
  split
  · exact (gl_acc s).tr (hI _)
  split
  · exact (gl_acc s).tr (gl_xp _)
  split
  · unfold opnY
    refine (gl_acc s).tr ?_
    unfold op2Y
    split
    · exact (gl_typ _).tr ((gl_xp _).tr (hI _))
    · exact (hE _).tr (gl_xp _)
  split
  · unfold nmeY
    split
    · unfold calY
      refine ((gl_acc s).tr (gl_acc _)).tr (LpY.tr ?_ (gl_xp _))
      unfold ca2Y
      split
      · exact gl_rai _
      split
      · exact LpY.rf
      · exact (hE _).tr (gl_clp hE _ _)
    split
    · exact (gl_acc s).tr (gl_acc _)
    · exact gl_acc s
  split
  · exact gl_acc s
  · exact gl_rai s
theorem gl_chc {O E C : SpC → SpC} (hO : GlY O) (hE : GlY E) (hC : GlY C) : GlY (chcY O E C) := by
  intro s
  unfold chcY chnY ch2Y
  refine ((hO s).tr (gl_chl hO 501 _)).tr ?_
  split
  · exact (gl_acc _).tr ((hE _).tr ((gl_xp _).tr (hC _)))
  · exact LpY.rf
theorem gl_xps {O E C : SpC → SpC} (hO : GlY O) (hE : GlY E) (hC : GlY C) : GlY (xpsY O E C) := by
  intro s
  unfold xpsY
  split
  · split
    · unfold asgY
      exact ((gl_acc s).tr (gl_acc _)).tr (hE _)
    · exact gl_chc hO hE hC s
  · exact gl_chc hO hE hC s
theorem gl_lv : ∀ n, GlY (lvY n).1 ∧ GlY (lvY n).2.1 ∧ GlY (lvY n).2.2 := by
  intro n
  induction n with
  | zero => exact ⟨gl_rai, gl_rai, gl_rai⟩
  | succ n ih => exact ⟨gl_xps (gl_opr ih.1 ih.2.2) ih.1 ih.2.1, gl_chc (gl_opr ih.1 ih.2.2) ih.1 ih.2.1, gl_opr ih.1 ih.2.2⟩
theorem gl_e {n : Nat} : GlY (eY n) := (gl_lv n).1
theorem gl_c {n : Nat} : GlY (cY n) := (gl_lv n).2.1
theorem gl_o {n : Nat} : GlY (oY n) := (gl_lv n).2.2
theorem gl_op {n : Nat} : GlY (opY n) := gl_opr gl_e gl_o
theorem pl_xp {c : Int} {s : SpC} : PlY s (xpY c s) := by
  unfold xpY
  split
  · exact pl_acc
  · exact pl_rai (by decide)
theorem pl_typ {s : SpC} : PlY s (typY s) := by
  unfold typY
  split
  · exact pl_acc
  · exact pl_rai (by decide)
theorem gl_cnd {n : Nat} : GlY (cndY n) := fun s => ((gl_xp s).tr (gl_e _)).tr (gl_xp _)
theorem gl_va2 {n : Nat} {f : Int} : GlY (va2Y n f) := by
  intro s
  unfold va2Y
  split
  · exact (gl_xp s).tr (gl_e _)
  · exact LpY.rf
theorem pl_var {n : Nat} {s : SpC} : PlY s (varY n s) := by
  unfold varY
  split
  · exact pl_acc.l (((gl_typ _).tr (gl_dcl _)).tr (gl_va2 _))
  · exact pl_typ.l ((gl_dcl _).tr (gl_va2 _))
theorem gl_fex {n : Nat} : GlY (fexY n) := fun s => (gl_e s).tr (gl_clp gl_e _ _)
theorem pl_cas {n : Nat} {s : SpC} : PlY s (casY n s) := by
  unfold casY
  split
  · exact pl_acc.l ((gl_e _).tr (gl_xp _))
  · exact pl_acc.l (gl_xp _)
theorem gl_blk {Rw : Int → SpC → SpC} (h : ∀ sw, GlY (Rw sw)) : GlY (blkY Rw) := fun s => ((gl_xp s).tr (h _ _)).tr (gl_xp _)
theorem gl_si3 {k : Int} : GlY (si3Y k) := by
  intro s
  unfold si3Y
  split
  · exact LpY.rf
  split
  · exact LpY.rf
  split
  · exact gl_acc s
  · exact LpY.rf
theorem gl_si2 {n : Nat} {k : Int} : GlY (si2Y n k) := by
  intro s
  unfold si2Y
  split
  · exact gl_e s
  split
  · split
    · exact LpY.rf
    · exact gl_e s
  · exact LpY.rf
theorem gl_if2 {St : SpC → SpC} (h : GlY St) : GlY (if2Y St) := by
  intro s
  unfold if2Y
  split
  · exact (gl_acc s).tr (h _)
  · exact LpY.rf
theorem gl_tr1 : GlY tr1Y := by
  intro s
  unfold tr1Y
  split
  · exact LpY.rf
  · exact gl_rai s
theorem gl_tr2 {Rw : Int → SpC → SpC} (h : ∀ sw, GlY (Rw sw)) : GlY (tr2Y Rw) := by
  intro s
  unfold tr2Y
  split
  · exact (((gl_acc s).tr (gl_xp _)).tr ((gl_dcl _).tr (gl_xp _))).tr (gl_blk h _)
  · exact LpY.rf
theorem gl_tr3 {Rw : Int → SpC → SpC} (h : ∀ sw, GlY (Rw sw)) : GlY (tr3Y Rw) := by
  intro s
  unfold tr3Y
  split
  · exact (gl_acc s).tr (gl_blk h _)
  · exact LpY.rf
theorem gl_fo1 {n : Nat} : GlY (fo1Y n) := by
  intro s
  unfold fo1Y
  split
  · exact pl_var.1
  split
  · exact LpY.rf
  · exact gl_fex s
theorem gl_fo2 {n : Nat} : GlY (fo2Y n) := by
  intro s
  unfold fo2Y
  split
  · exact LpY.rf
  · exact gl_e s
theorem gl_fo3 {n : Nat} : GlY (fo3Y n) := by
  intro s
  unfold fo3Y
  split
  · exact LpY.rf
  · exact gl_fex s
theorem pl_sm {n : Nat} {St : SpC → SpC} {Rw : Int → SpC → SpC} (hS : GlY St) (hR : ∀ sw, GlY (Rw sw)) {s : SpC} : PlY s (smY n St Rw s) := by
  unfold smY
  split
  · unfold ifY
    exact pl_acc.l (((gl_cnd _).tr (hS _)).tr (gl_if2 hS _))
  split
  · unfold whiY
    exact pl_acc.l ((gl_cnd _).tr (hS _))
  split
  · unfold doY
    exact pl_acc.l ((((hS _).tr (gl_xp _)).tr (gl_cnd _)).tr (gl_xp _))
  split
  · unfold forY
    exact pl_acc.l ((((((((gl_xp _).tr (gl_fo1 _)).tr (gl_xp _)).tr (gl_fo2 _)).tr (gl_xp _)).tr (gl_fo3 _)).tr (gl_xp _)).tr (hS _))
  split
  · unfold swiY
    exact pl_acc.l ((((gl_cnd _).tr (gl_xp _)).tr (hR _ _)).tr (gl_xp _))
  split
  · unfold tryY
    exact pl_acc.l ((((gl_blk hR _).tr (gl_tr1 _)).tr (gl_tr2 hR _)).tr (gl_tr3 hR _))
  split
  · unfold simY
    split
    · unfold blkY
      exact pl_xp.l ((hR _ _).tr (gl_xp _))
    split
    · exact pl_acc
    · exact pl_acc.l (((gl_si2 _).tr (gl_si3 _)).tr (gl_xp _))
  split
  · split
    · unfold labY
      exact pl_acc.l ((gl_xp _).tr (hS _))
    · unfold xstY
      exact PlY.r (gl_e _) pl_xp
  · unfold xstY
    exact PlY.r (gl_e _) pl_xp
theorem gl_rp2 {n : Nat} {S : SpC → SpC} (hS : GlY S) : GlY (rp2Y n S) := by
  intro s
  unfold rp2Y
  split
  · exact pl_var.1.tr (gl_xp _)
  · exact hS s
theorem gl_rpa {n : Nat} {S : SpC → SpC} (hS : GlY S) {sw b : Int} : GlY (rpaY n S sw b) := by
  intro s
  unfold rpaY
  split
  · split
    · exact pl_cas.1
    split
    · exact (gl_rai s).tr (gl_rp2 hS _)
    · exact gl_rp2 hS s
  · exact gl_rp2 hS s
theorem gl_rwl {n : Nat} {S : SpC → SpC} (hS : GlY S) {sw : Int} : ∀ (f : Nat) (b : Int), GlY (rwlY n S sw f b) := by
  intro f
  induction f with
  | zero => exact fun b s => LpY.rf
  | succ f ih =>
    intro b s
    rw [rwlY]
    split
    · split
      · exact LpY.rf
      · exact (gl_rpa hS s).tr (ih _ _)
    · exact LpY.rf
theorem gl_ls : ∀ n, GlY (lsY n).1 ∧ ∀ sw, GlY ((lsY n).2 sw) := by
  intro n
  induction n with
  | zero => exact ⟨gl_rai, fun _ => gl_rai⟩
  | succ n ih =>
    have h : GlY (smY (n + 1) (lsY n).1 (lsY n).2) := fun s => (pl_sm ih.1 ih.2).1
    exact ⟨h, fun sw s => gl_rwl h _ _ s⟩
theorem gl_st {n : Nat} : GlY (stY n) := (gl_ls n).1
theorem gl_rw {n : Nat} {sw : Int} : GlY (rwY n sw) := (gl_ls n).2 sw
theorem pl_st {n : Nat} {s : SpC} : PlY s (stY n s) := by
  cases n with
  | zero => exact pl_rai (by decide)
  | succ n => exact pl_sm gl_st (fun _ => gl_rw)
theorem pl_rp2 {n : Nat} {s : SpC} : PlY s (rp2Y n (stY n) s) := by
  unfold rp2Y
  split
  · exact pl_var.l (gl_xp _)
  · exact pl_st
theorem gl_pa2 {i : Nat} {ty f : Int} : GlY (pa2Y i ty f) := by
  intro s
  unfold pa2Y
  split
  · exact (gl_dcl s).tr (gl_pad _)
  · exact gl_dcl s
theorem gl_pa1 {i : Nat} : GlY (pa1Y i) := by
  intro s
  unfold pa1Y
  split
  · exact ((gl_acc s).tr (gl_typ _)).tr (gl_pa2 _)
  · exact (gl_typ s).tr (gl_pa2 _)
theorem gl_pal : ∀ f i, GlY (palY f i) := by
  intro f
  induction f with
  | zero => exact fun i s => LpY.rf
  | succ f ih =>
    intro i s
    rw [palY]
    split
    · exact ((gl_pa1 s).tr (gl_acc _)).tr (ih _ _)
    · exact gl_pa1 s
theorem gl_par : GlY parY := by
  intro s
  unfold parY pa3Y
  refine LpY.tr ((gl_xp (c := 0) s).tr ?_) (gl_xp _)
  split
  · exact LpY.rf
  · exact gl_pal _ _ _
theorem ml_me3 {ty : Int} {s : SpC} (z : zFt s = 0) : (zMs (me3Y ty s)).length = (zMs s).length + 1 := by
  unfold me3Y
  rw [if_pos z]
  have h := (((gl_acc (metY ty s)).tr (gl_par _)).tr (gl_blk (Rw := rwY 20) (fun _ => gl_rw) _)).1
  rw [h]
  rfl
theorem ml_mth {s : SpC} (z : zFt (mthY s) = 0) : (zMs (mthY s)).length = (zMs s).length + 1 := by
  unfold mthY at z ⊢
  have z1 : zFt (me2Y (accY (me1Y s))) = 0 := by
    by_cases q : zFt (me2Y (accY (me1Y s))) = 0
    · exact q
    · unfold me3Y at z
      rw [if_neg q] at z
      exact z
  rw [ml_me3 z1]
  have a : LpY s (me1Y s) := by
    unfold me1Y
    split
    · exact LpY.rf
    · exact gl_rai s
  have b : LpY (accY (me1Y s)) (me2Y (accY (me1Y s))) := by
    unfold me2Y
    split
    · split
      · exact gl_rai _
      · exact LpY.rf
    · exact gl_rai _
  rw [((a.tr (gl_acc _)).tr b).1]
