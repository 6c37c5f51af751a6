/-! S's: at goes on; fuel of rows -/
def PgY (s t : SpC) : Prop := GpY s t ∧ (zAt s ≤ 500 → zFt t = 0 → zAt s < zAt t)
theorem GpY.z {s t : SpC} (h : GpY s t) (z : zFt t = 0) : zFt s = 0 := by
  by_cases q : zFt s = 0
  · exact q
  · exact absurd z (h.ft q)
theorem PgY.l {s t u : SpC} (h : PgY s t) (g : GpY t u) : PgY s u := ⟨h.1.tr g, fun a z => by
  have b := h.1.2 a
  have c := g.2 b.2
  have d := h.2 a (g.z z)
  omega⟩
theorem PgY.r {s t u : SpC} (g : GpY s t) (h : PgY t u) : PgY s u := ⟨g.tr h.1, fun a z => by
  have b := g.2 a
  have d := h.2 b.2 z
  omega⟩
theorem PgY.no {s t : SpC} (h : GpY s t) (z : ¬ zFt t = 0) : PgY s t := ⟨h, fun _ q => absurd q z⟩
theorem pg_acc {s : SpC} : PgY s (accY s) := ⟨gd_acc s, fun _ z => by have := acc_pg z; omega⟩
theorem pg_rai {n : Int} {s : SpC} (hn : ¬ n = 0) : PgY s (raiY n s) := PgY.no (gd_rai s) (raiY_z hn)
theorem pg_xp {c : Int} {s : SpC} : PgY s (xpY c s) := by
  unfold xpY
  split
  · exact pg_acc
  · exact pg_rai (by decide)
theorem pg_typ {s : SpC} : PgY s (typY s) := by
  unfold typY
  split
  · exact pg_acc
  · exact pg_rai (by decide)
theorem gd_cnd {n : Nat} : GdY (cndY n) := fun s => ((gd_xp s).tr (gd_e _)).tr (gd_xp _)
theorem gd_va2 {n : Nat} {f : Int} : GdY (va2Y n f) := by
  intro s
  unfold va2Y
  split
  · exact (gd_xp s).tr (gd_e _)
  · exact GpY.rf
theorem pg_var {n : Nat} {s : SpC} : PgY s (varY n s) := by
  unfold varY
  split
  · exact pg_acc.l (((gd_typ _).tr (gd_dcl _)).tr (gd_va2 _))
  · exact pg_typ.l ((gd_dcl _).tr (gd_va2 _))
theorem gd_fex {n : Nat} : GdY (fexY n) := fun s => (gd_e s).tr (gd_clp gd_e _ _)
theorem pg_cas {n : Nat} {s : SpC} : PgY s (casY n s) := by
  unfold casY
  split
  · exact pg_acc.l ((gd_e _).tr (gd_xp _))
  · exact pg_acc.l (gd_xp _)
theorem gd_blk {Rw : Int → SpC → SpC} (h : ∀ sw, GdY (Rw sw)) : GdY (blkY Rw) := fun s => ((gd_xp s).tr (h _ _)).tr (gd_xp _)
theorem gd_si3 {k : Int} : GdY (si3Y k) := by
  intro s
  unfold si3Y
  split
  · exact GpY.rf
  split
  · exact GpY.rf
  split
  · exact gd_acc s
  · exact GpY.rf
theorem gd_si2 {n : Nat} {k : Int} : GdY (si2Y n k) := by
  intro s
  unfold si2Y
  split
  · exact gd_e s
  split
  · split
    · exact GpY.rf
    · exact gd_e s
  · exact GpY.rf
theorem gd_if2 {St : SpC → SpC} (h : GdY St) : GdY (if2Y St) := by
  intro s
  unfold if2Y
  split
  · exact (gd_acc s).tr (h _)
  · exact GpY.rf
theorem gd_tr1 : GdY tr1Y := by
  intro s
  unfold tr1Y
  split
  · exact GpY.rf
  · exact gd_rai s
theorem gd_tr2 {Rw : Int → SpC → SpC} (h : ∀ sw, GdY (Rw sw)) : GdY (tr2Y Rw) := by
  intro s
  unfold tr2Y
  split
  · exact (((gd_acc s).tr (gd_xp _)).tr ((gd_dcl _).tr (gd_xp _))).tr (gd_blk h _)
  · exact GpY.rf
theorem gd_tr3 {Rw : Int → SpC → SpC} (h : ∀ sw, GdY (Rw sw)) : GdY (tr3Y Rw) := by
  intro s
  unfold tr3Y
  split
  · exact (gd_acc s).tr (gd_blk h _)
  · exact GpY.rf
theorem gd_fo1 {n : Nat} : GdY (fo1Y n) := by
  intro s
  unfold fo1Y
  split
  · exact pg_var.1
  split
  · exact GpY.rf
  · exact gd_fex s
theorem gd_fo2 {n : Nat} : GdY (fo2Y n) := by
  intro s
  unfold fo2Y
  split
  · exact GpY.rf
  · exact gd_e s
theorem gd_fo3 {n : Nat} : GdY (fo3Y n) := by
  intro s
  unfold fo3Y
  split
  · exact GpY.rf
  · exact gd_fex s
theorem pg_sm {n : Nat} {St : SpC → SpC} {Rw : Int → SpC → SpC} (hS : GdY St) (hR : ∀ sw, GdY (Rw sw)) {s : SpC} : PgY s (smY n St Rw s) := by
  unfold smY
  split
  · unfold ifY
    exact pg_acc.l (((gd_cnd _).tr (hS _)).tr (gd_if2 hS _))
  split
  · unfold whiY
    exact pg_acc.l ((gd_cnd _).tr (hS _))
  split
  · unfold doY
    exact pg_acc.l ((((hS _).tr (gd_xp _)).tr (gd_cnd _)).tr (gd_xp _))
  split
  · unfold forY
    exact pg_acc.l ((((((((gd_xp _).tr (gd_fo1 _)).tr (gd_xp _)).tr (gd_fo2 _)).tr (gd_xp _)).tr (gd_fo3 _)).tr (gd_xp _)).tr (hS _))
  split
  · unfold swiY
    exact pg_acc.l ((((gd_cnd _).tr (gd_xp _)).tr (hR _ _)).tr (gd_xp _))
  split
  · unfold tryY
    exact pg_acc.l ((((gd_blk hR _).tr (gd_tr1 _)).tr (gd_tr2 hR _)).tr (gd_tr3 hR _))
  split
  · unfold simY
    split
    · unfold blkY
      exact pg_xp.l ((hR _ _).tr (gd_xp _))
    split
    · exact pg_acc
    · exact pg_acc.l (((gd_si2 _).tr (gd_si3 _)).tr (gd_xp _))
  split
  · split
    · unfold labY
      exact pg_acc.l ((gd_xp _).tr (hS _))
    · unfold xstY
      exact PgY.r (gd_e _) pg_xp
  · unfold xstY
    exact PgY.r (gd_e _) pg_xp
theorem gd_rp2 {n : Nat} {S : SpC → SpC} (hS : GdY S) : GdY (rp2Y n S) := by
  intro s
  unfold rp2Y
  split
  · exact pg_var.1.tr (gd_xp _)
  · exact hS s
theorem gd_rpa {n : Nat} {S : SpC → SpC} (hS : GdY S) {sw b : Int} : GdY (rpaY n S sw b) := by
  intro s
  unfold rpaY
  split
  · split
    · exact pg_cas.1
    split
    · exact (gd_rai s).tr (gd_rp2 hS _)
    · exact gd_rp2 hS s
  · exact gd_rp2 hS s
theorem gd_rwl {n : Nat} {S : SpC → SpC} (hS : GdY S) {sw : Int} : ∀ (f : Nat) (b : Int), GdY (rwlY n S sw f b) := by
  intro f
  induction f with
  | zero => exact fun b s => GpY.rf
  | succ f ih =>
    intro b s
    rw [rwlY]
    split
    · split
      · exact GpY.rf
      · exact (gd_rpa hS s).tr (ih _ _)
    · exact GpY.rf
theorem gd_ls : ∀ n, GdY (lsY n).1 ∧ ∀ sw, GdY ((lsY n).2 sw) := by
  intro n
  induction n with
  | zero => exact ⟨gd_rai, fun _ => gd_rai⟩
  | succ n ih =>
    have h : GdY (smY (n + 1) (lsY n).1 (lsY n).2) := fun s => (pg_sm ih.1 ih.2).1
    exact ⟨h, fun sw s => gd_rwl h _ _ s⟩
theorem gd_st {n : Nat} : GdY (stY n) := (gd_ls n).1
theorem gd_rw {n : Nat} {sw : Int} : GdY (rwY n sw) := (gd_ls n).2 sw
theorem pg_st {n : Nat} {s : SpC} : PgY s (stY n s) := by
  cases n with
  | zero => exact pg_rai (by decide)
  | succ n => exact pg_sm gd_st (fun _ => gd_rw)
theorem pg_rp2 {n : Nat} {s : SpC} : PgY s (rp2Y n (stY n) s) := by
  unfold rp2Y
  split
  · exact pg_var.l (gd_xp _)
  · exact pg_st
theorem pg_rpa {n : Nat} {sw b : Int} {s : SpC} : PgY s (rpaY n (stY n) sw b s) := by
  unfold rpaY
  split
  · split
    · exact pg_cas
    split
    · exact PgY.r (gd_rai s) pg_rp2
    · exact pg_rp2
  · exact pg_rp2
theorem rwl_fu {n : Nat} {sw : Int} : ∀ (f : Nat) (b : Int) (s : SpC), zAt s ≤ 500 → 501 - zAt s ≤ f → rwlY n (stY n) sw f b s = rwlY n (stY n) sw (f + 1) b s := by
  intro f
  induction f with
  | zero => intro b s h1 h2; omega
  | succ f ih =>
    intro b s h1 h2
    rw [rwlY, rwlY]
    split
    · split
      · rfl
      · have p := @pg_rpa n sw b s
        by_cases z : zFt (rpaY n (stY n) sw b s) = 0
        · have a := p.2 h1 z
          have c := p.1.2 h1
          exact ih _ _ c.2 (by omega)
        · rw [rwlY_f z, rwlY_f z]
    · rfl
/-- one more part of a row -/
theorem rwl_one {n : Nat} {sw b : Int} {s : SpC} (h0 : 0 ≤ zAt s) (h5 : zAt s ≤ 500) (z : zFt s = 0) (hc : ¬ codY s = 3) : rwlY n (stY n) sw 501 b s = rwlY n (stY n) sw 501 0 (rpaY n (stY n) sw b s) := by
  rw [rwlY, if_pos z, if_neg hc]
  have p := @pg_rpa n sw b s
  by_cases z : zFt (rpaY n (stY n) sw b s) = 0
  · have a := p.2 h5 z
    have c := p.1.2 h5
    exact rwl_fu 500 _ _ c.2 (by omega)
  · rw [rwlY_f z, rwlY_f z]
theorem rwl_no {n : Nat} {sw b : Int} {S : SpC → SpC} {f : Nat} {s : SpC} (hc : codY s = 3) : rwlY n S sw f b s = s := by
  cases f with
  | zero => rfl
  | succ f =>
    rw [rwlY, if_pos hc]
    split <;> rfl
theorem rwl_b {n : Nat} {S : SpC → SpC} {f : Nat} {b b' : Int} {s : SpC} : rwlY n S 0 f b s = rwlY n S 0 f b' s := by
  cases f with
  | zero => rfl
  | succ f => rw [rwlY, rwlY]; rfl
/-! what is still to be done, by the frames: 0 method 1 block 2 if 3 else 4 while 5 do 6 for 7 label 8 switch 9 try 10 catch 11 finally -/
def swY (k : Int) : Int := if k = 8 then 1 else 0
def isRY (k : Int) : Prop := k = 0 ∨ k = 1 ∨ k = 9 ∨ k = 10 ∨ k = 11
/-- a row from its part on -/
def rlY (k b : Int) (n : Nat) (s : SpC) : SpC := rwlY n (stY n) (swY k) 501 b s
def sfY : List Int → Nat → SpC → SpC
  | [], _, s => s
  | k :: F, n, s =>
    if k = 2 then sfY F (n + 1) (if2Y (stY n) s)
    else if k = 5 then sfY F (n + 1) (xpY 4 (cndY (n + 1) (xpY 58 s)))
    else if k = 9 then sfY F (n + 1) (tr3Y (rwY n) (tr2Y (rwY n) (tr1Y (xpY 3 (rlY k 0 n s)))))
    else if k = 10 then sfY F (n + 1) (tr3Y (rwY n) (xpY 3 (rlY k 0 n s)))
    else if k = 0 ∨ k = 1 ∨ k = 8 ∨ k = 11 then sfY F (n + 1) (xpY 3 (rlY k 0 n s))
    else sfY F (n + 1) s
/-- behind a row -/
def clY (k : Int) (F : List Int) (n : Nat) (s : SpC) : SpC :=
  if k = 9 then sfY F (n + 1) (tr3Y (rwY n) (tr2Y (rwY n) (tr1Y (xpY 3 s))))
  else if k = 10 then sfY F (n + 1) (tr3Y (rwY n) (xpY 3 s))
  else sfY F (n + 1) (xpY 3 s)
/-- ahead of a piece -/
def pcY (b : Int) (F : List Int) (n : Nat) (s : SpC) : SpC := match F with
  | [] => s
  | k :: G => if k = 2 ∨ k = 3 ∨ k = 4 ∨ k = 5 ∨ k = 6 ∨ k = 7 then sfY (k :: G) n (stY n s) else clY k G n (rlY k b n s)
abbrev rwkY (k : Int) : Prop := k = 0 ∨ k = 1 ∨ k = 8 ∨ k = 9 ∨ k = 10 ∨ k = 11
theorem sf_row {k : Int} {F : List Int} {n : Nat} {s : SpC} (h : rwkY k) : sfY (k :: F) n s = clY k F n (rlY k 0 n s) := by
  rw [sfY]
  unfold clY
  rcases h with rfl | rfl | rfl | rfl | rfl | rfl <;> rfl
theorem pc_row {k b : Int} {F : List Int} {n : Nat} {s : SpC} (h : rwkY k) : pcY b (k :: F) n s = clY k F n (rlY k b n s) := by
  show (if _ then _ else _) = _
  rw [if_neg (by omega)]
theorem sf_pc {k : Int} {F : List Int} {n : Nat} {s : SpC} (h : rwkY k) : sfY (k :: F) n s = pcY 0 (k :: F) n s := by rw [sf_row h, pc_row h]
theorem pc_st {k b : Int} {F : List Int} {n : Nat} {s : SpC} (h : k = 2 ∨ k = 3 ∨ k = 4 ∨ k = 5 ∨ k = 6 ∨ k = 7) : pcY b (k :: F) n s = sfY (k :: F) n (stY n s) := by
  show (if _ then _ else _) = _
  rw [if_pos h]
theorem pc_b {k b b' : Int} {F : List Int} {n : Nat} {s : SpC} (h : ¬ k = 8) : pcY b (k :: F) n s = pcY b' (k :: F) n s := by
  show (if _ then _ else _) = (if _ then _ else _)
  unfold rlY swY
  rw [if_neg h, rwl_b]
theorem sf_if {F : List Int} {n : Nat} {s : SpC} : sfY (2 :: F) n s = sfY F (n + 1) (if2Y (stY n) s) := rfl
theorem sf_do {F : List Int} {n : Nat} {s : SpC} : sfY (5 :: F) n s = sfY F (n + 1) (xpY 4 (cndY (n + 1) (xpY 58 s))) := rfl
theorem sf_pop {k : Int} {F : List Int} {n : Nat} {s : SpC} (h : k = 3 ∨ k = 4 ∨ k = 6 ∨ k = 7) : sfY (k :: F) n s = sfY F (n + 1) s := by
  rcases h with rfl | rfl | rfl | rfl <;> rfl
theorem gd_rl {k b : Int} {n : Nat} : GdY (rlY k b n) := fun s => gd_rwl gd_st _ _ s
theorem gd_sf : ∀ (F : List Int) (n : Nat), GdY (sfY F n) := by
  intro F
  induction F with
  | nil => exact fun n s => GpY.rf
  | cons k F ih =>
    intro n s
    rw [sfY]
    split
    · exact (gd_if2 gd_st s).tr (ih _ _)
    split
    · exact (((gd_xp s).tr (gd_cnd _)).tr (gd_xp _)).tr (ih _ _)
    split
    · exact (((((gd_rl s).tr (gd_xp _)).tr (gd_tr1 _)).tr (gd_tr2 (fun _ => gd_rw) _)).tr (gd_tr3 (fun _ => gd_rw) _)).tr (ih _ _)
    split
    · exact (((gd_rl s).tr (gd_xp _)).tr (gd_tr3 (fun _ => gd_rw) _)).tr (ih _ _)
    split
    · exact ((gd_rl s).tr (gd_xp _)).tr (ih _ _)
    · exact ih _ s
theorem gd_cl {k : Int} {F : List Int} {n : Nat} : GdY (clY k F n) := by
  intro s
  unfold clY
  split
  · exact ((((gd_xp s).tr (gd_tr1 _)).tr (gd_tr2 (fun _ => gd_rw) _)).tr (gd_tr3 (fun _ => gd_rw) _)).tr (gd_sf _ _ _)
  split
  · exact ((gd_xp s).tr (gd_tr3 (fun _ => gd_rw) _)).tr (gd_sf _ _ _)
  · exact (gd_xp s).tr (gd_sf _ _ _)
theorem gd_pc {b : Int} {F : List Int} {n : Nat} : GdY (pcY b F n) := by
  intro s
  cases F with
  | nil => exact GpY.rf
  | cons k F =>
    by_cases h : k = 2 ∨ k = 3 ∨ k = 4 ∨ k = 5 ∨ k = 6 ∨ k = 7
    · rw [pc_st h]
      exact (gd_st s).tr (gd_sf _ _ _)
    · show GpY s (if _ then _ else _)
      rw [if_neg h]
      exact (gd_rl s).tr (gd_cl _)
