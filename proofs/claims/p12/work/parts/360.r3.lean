/-! links of S's go up, parents down: along all that is read -/
def lkU (j : Nat) (x : SrZ) : Prop := x.1.2.2.2 < (j : Int) ∧ (x.2.2.1 < 0 ∨ (j : Int) < x.2.2.1) ∧ (x.2.2.2.1 < 0 ∨ (j : Int) < x.2.2.2.1) ∧ (x.2.2.2.2.1 < 0 ∨ (j : Int) < x.2.2.2.2.1) ∧ (x.2.2.2.2.2.1 < 0 ∨ (j : Int) < x.2.2.2.2.2.1) ∧ 0 ≤ x.2.2.2.2.2.2.2.2
def Uw (n : Nat) (z : ZS) : Prop := n ≤ snM z ∧ z.2.2.2.1.2 < (snM z : Int) ∧ ∀ j, j < snM z → lkU j (reS z j)
section
variable {n j : Nat} {z : ZS}
theorem Uw.mo {m : Nat} (h : Uw n z) (q : m ≤ n) : Uw m z := ⟨Nat.le_trans q h.1, h.2⟩
theorem Uw.sf (h : Uw n z) : Uw (snM z) z := ⟨Nat.le_refl _, h.2⟩
theorem Uw.e {z' : ZS} (h : Uw n z) (q : z'.2.2.1 = z.2.2.1) (q' : z'.2.2.2.1.2 = z.2.2.2.1.2) : Uw n z' := by
  unfold Uw snM reS at *
  rw [q, q']
  exact h
theorem Uw.ac (h : Uw n z) : Uw n (accM z) := h
theorem Uw.ra {c : Int} (h : Uw n z) : Uw n (raiM c z) := h
theorem Uw.xp {c : Int} (h : Uw n z) : Uw n (xpM c z) := h
theorem Uw.ty (h : Uw n z) : Uw n (typM z) := h
theorem Uw.th (h : Uw n z) : Uw n (thM z) := h
theorem Uw.ve {t : Int} {o : List (Int × Int)} (h : Uw n z) : Uw n (veM t o z) := h
theorem Uw.dc {N : Int → Int} {ty f g : Int} (h : Uw n z) : Uw n (dcM N ty f g z) := h
theorem Uw.co {o a b t : Int} (h : Uw n z) : Uw n (coM o a b t z) := h
theorem Uw.cx {o a b t : Int} (h : Uw n z) : Uw n (cxM o a b t z) := h
theorem Uw.pu {x : XrZ} (h : Uw n z) : Uw n (puM x z) := h
theorem Uw.en {j c : Nat} (h : Uw n z) : Uw n (enM j c z) := h
theorem Uw.po (h : Uw n z) : Uw n (poM z) := h
theorem Uw.se {f : SrZ → SrZ} (h : Uw n z) (q : ∀ x, lkU j x → lkU j (f x)) : Uw n (seM j f z) := by
  refine ⟨h.1, h.2.1, fun k hk => ?_⟩
  show lkU k (if k = j then f (z.2.2.1.2 j) else z.2.2.1.2 k)
  split
  · rename_i e
    rw [e]
    exact q _ (h.2.2 j (e ▸ hk))
  · exact h.2.2 k hk
theorem Uw.sx {v : Int} (h : Uw n z) : Uw n (seM j (sEx v) z) := h.se (fun _ q => q)
theorem Uw.sl {v : Int} (h : Uw n z) : Uw n (seM j (sLk v) z) := h.se (fun _ q => q)
theorem Uw.sb {v : Int} (h : Uw n z) (q : v < 0 ∨ (j : Int) < v) : Uw n (seM j (sBd v) z) := h.se (fun _ p => ⟨p.1, p.2.1, q, p.2.2.2⟩)
theorem Uw.sn {v : Int} (h : Uw n z) (q : v < 0 ∨ (j : Int) < v) : Uw n (seM j (sNx v) z) := h.se (fun _ p => ⟨p.1, q, p.2.2⟩)
theorem Uw.so {v : Int} (h : Uw n z) (q : v < 0 ∨ (j : Int) < v) : Uw n (seM j (sOt v) z) := h.se (fun _ p => ⟨p.1, p.2.1, p.2.2.1, q, p.2.2.2.2⟩)
theorem Uw.sg {v : Int} (h : Uw n z) (q : v < 0 ∨ (j : Int) < v) : Uw n (seM j (sLs v) z) := h.se (fun _ p => ⟨p.1, p.2.1, p.2.2.1, p.2.2.2.1, q, p.2.2.2.2.2⟩)
theorem Uw.ar {i : Int} (h : Uw n z) (q : i < (n : Int)) : Uw n (arM i z) := ⟨h.1, by have := h.1; show i < ((snM z : Nat) : Int); omega, h.2.2⟩
theorem Uw.un (h : Uw n z) (q : j < n) : Uw n (unM j z) := by
  have a := h.1
  have b : paS z j < (j : Int) := (h.2.2 j (by omega)).1
  exact h.ar (by omega)
theorem Uw.be {k l : Int} (h : Uw n z) : Uw (snM z + 1) (beM k l z) := by
  refine ⟨Nat.le_refl _, ?_, fun i hi => ?_⟩
  · have := h.2.1
    show z.2.2.2.1.2 < ((snM z + 1 : Nat) : Int)
    omega
  · show lkU i (if i = snM z then _ else z.2.2.1.2 i)
    split
    · rename_i e
      have m1 : (-1 : Int) < 0 := by decide
      refine ⟨?_, Or.inl m1, Or.inl m1, Or.inl m1, Or.inl m1, Int.natCast_nonneg _⟩
      rw [e]
      exact h.2.1
    · have : i < snM z + 1 := hi
      exact h.2.2 i (by omega)
theorem Uw.bg {k : Int} {m : Nat} (h : Uw n z) : Uw (snM z + 1) (bgM k m z) := h.be
theorem Uw.bh {k : Int} {m : Nat} (h : Uw n z) : Uw (snM z + 1) (bgH k m z) := h.be
theorem Uw.dn {f : ZS} (h : Uw n z) (q : Uw (snM z + 1) f) : Uw n f := q.mo (Nat.le_succ_of_le h.1)
variable {N : Int → Int}
theorem Uw.ee {m : Nat} (h : Uw n z) : Uw n (eM N m z) := h.e (congrArg (·.1) ((ks_lv (N := N) m).1 z)) (congrArg (·.2.1.2) ((ks_lv (N := N) m).1 z))
theorem Uw.ex {m : Nat} (h : Uw n z) : Uw n (exS N j m z) := h.ee.sx
theorem Uw.cd {m : Nat} (h : Uw n z) : Uw n (cdM N j m z) := (h.xp).ex.xp
theorem Uw.bd {k : Nat} (h : Uw n z) (q : j < n) (q' : j < k) : Uw n (bdM j k z) := (h.sb (Or.inr (by omega))).un q
theorem Uw.xs {m : Nat} (h : Uw n z) : Uw (snM z + 1) (xsM N m z) := id h.bg.ex.po.xp.en
theorem Uw.va2 {m : Nat} {f v t : Int} (h : Uw n z) : Uw n (va2M N j m f v t z) := by
  unfold va2M
  split
  · exact (h.co.xp.ex).pu
  · exact h.co
theorem Uw.va1 {m : Nat} {f ty : Int} (h : Uw n z) : Uw n (va1M N j m f ty z) := (h.dc.sl).va2
theorem Uw.va {m : Nat} (h : Uw n z) : Uw n (vaM N j m z) := by
  unfold vaM
  split
  · exact (h.ac.ty).va1
  · exact (h.ty).va1
theorem Uw.to {m : Nat} (h : Uw n z) : Uw (snM z + 1) (toM N m z) := id h.bg.va.xp.en
theorem Uw.fx1 {m : Nat} (h : Uw n z) : Uw (snM z + 1) (fx1M N m z) := h.be.ex.po
end
theorem Uw.fxl {N : Int → Int} {m : Nat} : ∀ (f j n : Nat) (z : ZS), Uw n z → j < n → Uw n (fxlM N m f j z) := by
  intro f
  induction f with
  | zero => exact fun _ _ _ h _ => h
  | succ f ih =>
    intro j n z h q
    rw [fxlM]
    split
    · have a := h.1
      have h1 : Uw (snM z + 1) (seM j (sNx (snM z)) (fx1M N m (accM z))) := (h.ac.fx1).sn (Or.inr (by omega))
      exact (ih _ _ _ h1 (Nat.lt_succ_self _)).mo (by omega)
    · exact h
section
variable {n j : Nat} {z : ZS} {N : Int → Int}
theorem Uw.fx {m : Nat} (h : Uw n z) : Uw n (fxM N m z) := h.dn (Uw.fxl 501 _ _ _ h.fx1 (Nat.lt_succ_self _))
theorem Uw.cs {m : Nat} {js : Int} (h : Uw n z) : Uw (snM z + 1) (csM N js m z) := by
  unfold csM
  split
  · exact id (h.be.ac.ex.cx.xp)
  · exact id (h.be.ac.co.xp)
theorem Uw.ju {m : Nat} {k : Int} (h : Uw n z) : Uw (snM z + 1) (juM N k m z) := by
  have q1 : Uw (snM z + 1) (accM (bgM k m z)) := h.bg.ac
  refine id (Uw.en (Uw.xp ?_))
  split
  · exact q1.sl.co.ac
  · exact q1.co
theorem Uw.gi {m : Nat} {k : Int} (h : Uw n z) : Uw (snM z + 1) (giM N k m z) := by
  have q1 : Uw (snM z + 1) (accM (bgM k m z)) := h.bg.ac
  refine id (Uw.en (Uw.xp ?_))
  dsimp only
  split
  · refine Uw.cx ?_
    split
    · exact q1.ex.sl
    · exact q1.ex
  · exact q1.sl.co
abbrev UvS (St : ZS → ZS) : Prop := ∀ n z, Uw n z → Uw n (St z)
abbrev UsS (St : ZS → ZS) : Prop := ∀ n z, Uw n z → Uw (snM z + 1) (St z)
abbrev UvR (Rw : Int → Nat → ZS → ZS × Int) : Prop := ∀ sw js n z, Uw n z → Uw n (Rw sw js z).1 ∧ ((Rw sw js z).2 < 0 ∨ (n : Int) ≤ (Rw sw js z).2)
variable {St : ZS → ZS} {Rw : Int → Nat → ZS → ZS × Int}
theorem Uw.blk (h : Uw n z) (r : UvR Rw) (q : j < n) {o : List (Int × Int)} : Uw n (blkM Rw j o z) := by
  have a := r 0 0 n (xpM 2 (arM j z)) (h.ar (by omega)).xp
  exact ((a.1.sb (by rcases a.2 with b | b <;> omega)).un q).ve.xp
theorem Uw.bo (h : Uw n z) (r : UvR Rw) {m : Nat} {o : List (Int × Int)} : Uw n (boM Rw m o z) := h.dn (h.be.blk r (Nat.lt_succ_self _))
theorem Uw.bl (h : Uw n z) (r : UvR Rw) {m : Nat} : Uw (snM z + 1) (blM Rw m z) := id (h.bh.blk r (Nat.lt_succ_self _)).en
theorem Uw.em (h : Uw n z) {m : Nat} : Uw (snM z + 1) (emM m z) := id h.bg.ac.en
theorem Uw.la (h : Uw n z) (s : UvS St) {m : Nat} : Uw (snM z + 1) (laM m St z) := id (((s _ _ (h.bh.co.sl.ac.xp.ar (by omega))).bd (Nat.lt_succ_self _) (Nat.lt_succ_self _)).co.en)
theorem Uw.if2 (h : Uw n z) (s : UvS St) (q : j < n) {k c : Nat} : Uw n (if2M St j k c z) := by
  have a := h.1
  unfold if2M
  split
  · exact (((s _ _ (h.co.ac.ar (by omega))).so (Or.inr (by omega))).un q).co.en
  · exact h.co.en
theorem Uw.if (h : Uw n z) (s : UvS St) {m : Nat} : Uw (snM z + 1) (ifM N m St z) := id (((s _ _ (h.bh.ac.cd.cx.ar (by omega))).bd (Nat.lt_succ_self _) (Nat.lt_succ_self _)).if2 s (Nat.lt_succ_self _))
theorem Uw.wh (h : Uw n z) (s : UvS St) {m : Nat} : Uw (snM z + 1) (whM N m St z) := id (((s _ _ (h.bh.co.ac.cd.cx.ar (by omega))).bd (Nat.lt_succ_self _) (Nat.lt_succ_self _)).co.en)
theorem Uw.do (h : Uw n z) (s : UvS St) {m : Nat} : Uw (snM z + 1) (doM N m St z) := id ((((s _ _ (h.bh.co.ac.ar (by omega))).bd (Nat.lt_succ_self _) (Nat.lt_succ_self _)).xp.co.cd.xp).cx.en)
theorem Uw.fo1 (h : Uw n z) (q : j < n) {m : Nat} : Uw n (fo1M N j m z) := by
  have a := h.1
  unfold fo1M
  split
  · exact (h.dn h.be.va).so (Or.inr (by omega))
  split
  · exact h
  · exact h.fx.so (Or.inr (by omega))
theorem Uw.fo2 (h : Uw n z) {k m : Nat} : Uw n (fo2M N j k m z) := by
  unfold fo2M
  split
  · exact h.co
  · exact h.ex.cx
theorem Uw.fo3 (h : Uw n z) (q : j < n) {m : Nat} : Uw n (fo3M N j m z) := by
  have a := h.1
  unfold fo3M
  split
  · exact h
  · exact h.fx.sg (Or.inr (by omega))
theorem Uw.fob (h : Uw n z) (q : j < n) {k m : Nat} : Uw n (foB N j k m z) := (((((h.xp.ar (by omega)).fo1 q).xp.co.fo2).xp.co.fo3 q).xp).co
theorem Uw.fo (h : Uw n z) (s : UvS St) {m : Nat} : Uw (snM z + 1) (foM2 N m St z) := by
  have b : Uw (snM z + 1) (foB N (snM z) (tnM z) m (accM (bgH 60 m z))) := h.bh.ac.fob (Nat.lt_succ_self _)
  exact id (((s _ _ b).bd (Nat.lt_succ_self _) b.1).ve.co.en)
theorem Uw.sw (h : Uw n z) (r : UvR Rw) {m : Nat} : Uw (snM z + 1) (swM N m Rw z) := by
  have a := r 1 (tnM z) (snM z + 1) (swB N m z) (h.bh.ac.cd.cx.ar (by omega)).xp
  exact id (((a.1.sb (by rcases a.2 with b | b <;> omega)).un (Nat.lt_succ_self _)).ve.xp.co.en)
theorem Uw.tr1 (h : Uw n z) : Uw n (tr1M z) := by
  unfold tr1M
  split
  · exact h
  · exact h.ra
theorem Uw.tr2 (h : Uw n z) (r : UvR Rw) (q : j < n) {k m : Nat} : Uw n (tr2M N Rw j k m z) := by
  unfold tr2M
  split
  · have b : Uw n (xpM 1 (seM j (sLk (zVs (xpM 0 (accM (caM k z))).1).length) (dcM N 3 0 1 (xpM 0 (accM (caM k z)))))) := Uw.sl h
    have a := b.1
    exact (b.bo r).so (Or.inr (Int.ofNat_lt.mpr (Nat.lt_of_lt_of_le q a)))
  · exact h
theorem Uw.tr3 (h : Uw n z) (r : UvR Rw) (q : j < n) {k m : Nat} : Uw n (tr3M Rw j k m z) := by
  unfold tr3M
  split
  · have b : Uw n (accM (coM 52 k 0 (zAt z.1) z)) := h
    have a := b.1
    exact (b.bo r).sg (Or.inr (by omega))
  · exact h
theorem Uw.tr (h : Uw n z) (r : UvR Rw) {m : Nat} : Uw (snM z + 1) (trM N m Rw z) := by
  have b := ((h.bh (k := 68) (m := m)).ac.co (o := 50) (a := tnM z) (b := 0) (t := zAt (accM (bgH 68 m z)).1)).ar (i := (snM z : Int)) (by omega)
  have b1 : Uw (snM z + 1) (trB m z) := (h.bh.ac.co).ar (by omega)
  exact id (((((((b1.bo r).sb (Or.inr (by omega))).tr1).tr2 r (Nat.lt_succ_self _)).tr3 r (Nat.lt_succ_self _)).un (Nat.lt_succ_self _)).co.en)
theorem Uw.sm (h : Uw n z) (s : UvS St) (r : UvR Rw) {m : Nat} : Uw (snM z + 1) (smM N m St Rw z) := iv_if (I := Uw (snM z + 1)) (h.if s) (iv_if (I := Uw (snM z + 1)) (h.wh s) (iv_if (I := Uw (snM z + 1)) (h.do s) (iv_if (I := Uw (snM z + 1)) (h.fo s) (iv_if (I := Uw (snM z + 1)) (h.sw r) (iv_if (I := Uw (snM z + 1)) (h.tr r) (iv_if (I := Uw (snM z + 1)) (h.bl r) (iv_if (I := Uw (snM z + 1)) h.em (iv_if (I := Uw (snM z + 1)) h.ju (iv_if (I := Uw (snM z + 1)) h.gi (iv_if (I := Uw (snM z + 1)) (iv_if (I := Uw (snM z + 1)) (h.la s) h.xs) h.xs))))))))))
theorem Uw.rp2 (h : Uw n z) (s : UsS St) {m : Nat} : Uw (snM z + 1) (rp2M N m St z) := by
  unfold rp2M
  split
  · exact h.to
  · exact s _ _ h
theorem Uw.rp (h : Uw n z) (s : UsS St) {m js : Nat} {sw b : Int} : Uw (snM z + 1) (rpM N m St sw js b z) := by
  unfold rpM
  split
  · split
    · exact h.cs
    split
    · exact h.ra.rp2 s
    · exact h.rp2 s
  · exact h.rp2 s
end
theorem Uw.rwl {N : Int → Int} {St : ZS → ZS} (s : UsS St) {m js : Nat} {sw : Int} : ∀ (k n : Nat) (f l : Int) (z : ZS), Uw n z → (f < 0 ∨ (n : Int) ≤ f) → l < (snM z : Int) → Uw n (rwlM N m St sw js k f l z).1 ∧ ((rwlM N m St sw js k f l z).2 < 0 ∨ (n : Int) ≤ (rwlM N m St sw js k f l z).2) := by
  intro k
  induction k with
  | zero => exact fun _ _ _ _ h q _ => ⟨h, q⟩
  | succ k ih =>
    intro n f l z h q ql
    rw [rwlM]
    split
    · split
      · exact ⟨h, q⟩
      · have a := h.1
        have h1 : Uw (snM z + 1) (nxM l (snM z) (rpM N m St sw js (if f < 0 then 1 else 0) z)) := by
          unfold nxM
          split
          · exact h.rp s
          · exact (h.rp s).sn (Or.inr (by omega))
        exact ih n _ _ _ (h1.mo (by omega)) (by split <;> omega) (by have := h1.1; omega)
    · exact ⟨h, q⟩
theorem Uw.ls {N : Int → Int} : ∀ m, UvS (lsM N m).1 ∧ UvR (lsM N m).2 := by
  intro m
  induction m with
  | zero => exact ⟨fun _ _ h => h, fun _ _ _ _ h => ⟨h, Or.inl (by show (-1 : Int) < 0; decide)⟩⟩
  | succ m ih =>
    have s : UsS (smM N (m + 1) (lsM N m).1 (lsM N m).2) := fun _ _ h => h.sm ih.1 ih.2
    exact ⟨fun n z h => (s n z h).mo (Nat.le_succ_of_le h.1), fun sw js n z h => Uw.rwl s 501 n (-1) (-1) z h (Or.inl (by decide)) (by omega)⟩
section
variable {n : Nat} {z : ZS} {N : Int → Int}
theorem Uw.pa2 (h : Uw n z) {i : Nat} {ty f : Int} : Uw n (pa2M N i ty f z) := by
  unfold pa2M
  split
  · exact h
  · exact h
theorem Uw.pa1 (h : Uw n z) {i : Nat} : Uw n (pa1M N i z) := by
  unfold pa1M
  split
  · exact (h.ac.ty).pa2
  · exact (h.ty).pa2
end
theorem Uw.pal {N : Int → Int} {n : Nat} : ∀ (f i : Nat) (z : ZS), Uw n z → Uw n (palM N f i z) := by
  intro f
  induction f with
  | zero => exact fun _ _ q => q
  | succ f ih =>
    intro i z q
    rw [palM]
    split
    · exact ih _ _ q.pa1.ac
    · exact q.pa1
theorem Uw.pa {N : Int → Int} {n : Nat} {z : ZS} (q : Uw n z) : Uw n (paM N z) := by
  refine Uw.xp ?_
  have q1 : Uw n (xpM 0 z) := q.xp
  unfold pa3M
  split
  · exact q1
  · exact Uw.pal 7 0 _ q1
theorem Uw.me {N : Int → Int} {n : Nat} {z : ZS} (q : Uw n z) : Uw n (meM N z) := by
  have q1 : Uw n (me1M z) := by
    unfold me1M
    split
    · exact q
    · exact q.ra
  have q2 : Uw n (me2M (accM (me1M z))) := by
    have q3 := q1.ac
    unfold me2M
    split
    · split
      · exact q3.ra
      · exact q3
    · exact q3.ra
  show Uw n (me3M N (codY z.1 - 50) (me2M (accM (me1M z))))
  generalize me2M (accM (me1M z)) = y at q2 ⊢
  unfold me3M
  split
  · have q4 : Uw n (me0M (codY z.1 - 50) y) := ⟨q2.1, by show (-1 : Int) < ((snM y : Nat) : Int); omega, q2.2.2⟩
    exact (q4.ac.pa.bo (Uw.ls 20).2).co
  · exact q2
/-- all that is read keeps it -/
theorem Uw.pr {N : Int → Int} {n : Nat} : ∀ (f : Nat) (z : ZS), Uw n z → Uw n (prM N f z) := by
  intro f
  induction f with
  | zero => exact fun _ q => q
  | succ f ih =>
    intro z q
    rw [prM]
    split
    · split
      · exact q
      · exact ih _ q.me
    · exact q
/-- links go up, parents down -/
theorem up_pr {N : Int → Int} {f : Nat} {z : ZS} (h0 : snM z = 0) (ha : z.2.2.2.1.2 < 0) : UpS (prM N f z) ∧ ∀ j, j < snM (prM N f z) → paS (prM N f z) j < (j : Int) := by
  have h : Uw 0 (prM N f z) := Uw.pr f z ⟨Nat.zero_le _, by omega, fun j hj => by omega⟩
  exact ⟨fun j hj => ⟨(h.2.2 j hj).2.1, (h.2.2 j hj).2.2.1, (h.2.2 j hj).2.2.2.1, (h.2.2 j hj).2.2.2.2.1⟩, fun j hj => (h.2.2 j hj).1⟩
/-- things are numbers -/
theorem tn_pr {N : Int → Int} {f : Nat} {z : ZS} (h0 : snM z = 0) (ha : z.2.2.2.1.2 < 0) : ∀ j, j < snM (prM N f z) → 0 ≤ (reS (prM N f z) j).2.2.2.2.2.2.2.2 := by
  have h : Uw 0 (prM N f z) := Uw.pr f z ⟨Nat.zero_le _, by omega, fun j hj => by omega⟩
  exact fun j hj => (h.2.2 j hj).2.2.2.2.2
