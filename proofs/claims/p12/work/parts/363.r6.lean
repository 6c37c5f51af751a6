section
variable {n j : Nat} {z : ZS} {N : Int → Int}
theorem Wx.ee {m : Nat} (h : Wx n z) : Wx n (eM N m z) := by
  refine ⟨h.1.ee, fun q => ?_⟩
  have f : zFt z.1 = 0 := by
    by_cases c : zFt z.1 = 0
    · exact c
    · exfalso
      have f := (gd_e (n := m) z.1).ft c
      rw [lf_e z] at q
      exact f q
  have e := (ks_lv (N := N) m).1 z
  have a := h.2 f
  unfold snM reS at *
  rw [e]
  exact a
theorem Wx.ex {m : Nat} (h : Wx n z) : Wx n (exS N j m z) := h.ee.sx
theorem Wx.cd {m : Nat} (h : Wx n z) : Wx n (cdM N j m z) := (h.xp).ex.xp
theorem Wx.bd {k : Nat} (h : Wx n z) (q : j < n) (q' : j < k) (w : zFt z.1 = 0 → k < snM z) : Wx n (bdM j k z) := (h.sb (Or.inr (by omega)) (fun e => by have := w e; omega)).un q
theorem Wx.xs {m : Nat} (h : Wx n z) : Wx (snM z + 1) (xsM N m z) := id h.bg.ex.po.xp.en
theorem Wx.va2 {m : Nat} {f v t : Int} (h : Wx n z) : Wx n (va2M N j m f v t z) := by
  unfold va2M
  split
  · exact (h.co.xp.ex).pu
  · exact h.co
theorem Wx.va1 {m : Nat} {f ty : Int} (h : Wx n z) : Wx n (va1M N j m f ty z) := (h.dc.sl).va2
theorem Wx.va {m : Nat} (h : Wx n z) : Wx n (vaM N j m z) := by
  unfold vaM
  split
  · exact (h.ac.ty).va1
  · exact (h.ty).va1
theorem Wx.to {m : Nat} (h : Wx n z) : Wx (snM z + 1) (toM N m z) := id h.bg.va.xp.en
theorem Wx.fx1 {m : Nat} (h : Wx n z) : Wx (snM z + 1) (fx1M N m z) := h.be.ex.po
end
theorem Wx.fxl {N : Int → Int} {m : Nat} : ∀ (f j n : Nat) (z : ZS), Wx n z → j < n → Wx n (fxlM N m f j z) := by
  intro f
  induction f with
  | zero => exact fun _ _ _ h _ => h
  | succ f ih =>
    intro j n z h q
    rw [fxlM]
    split
    · have a := h.1.1
      have h0 : Wx (snM z + 1) (fx1M N m (accM z)) := h.ac.fx1
      have a0 := h0.1.1
      have h1 : Wx (snM z + 1) (seM j (sNx (snM z)) (fx1M N m (accM z))) := h0.sn (Or.inr (by omega)) (fun _ => by omega)
      exact (ih _ _ _ h1 (Nat.lt_succ_self _)).mo (by omega)
    · exact h
section
variable {n j : Nat} {z : ZS} {N : Int → Int}
theorem Wx.fx {m : Nat} (h : Wx n z) : Wx (snM z + 1) (fxM N m z) := Wx.fxl 501 _ _ _ h.fx1 (Nat.lt_succ_self _)
theorem Wx.cs {m : Nat} {js : Int} (h : Wx n z) : Wx (snM z + 1) (csM N js m z) := by
  unfold csM
  split
  · exact id (h.be.ac.ex.cx.xp)
  · exact id (h.be.ac.co.xp)
theorem Wx.ju {m : Nat} {k : Int} (h : Wx n z) : Wx (snM z + 1) (juM N k m z) := by
  have q1 : Wx (snM z + 1) (accM (bgM k m z)) := h.bg.ac
  refine id (Wx.en (Wx.xp ?_))
  split
  · exact q1.sl.co.ac
  · exact q1.co
theorem Wx.gi {m : Nat} {k : Int} (h : Wx n z) : Wx (snM z + 1) (giM N k m z) := by
  have q1 : Wx (snM z + 1) (accM (bgM k m z)) := h.bg.ac
  refine id (Wx.en (Wx.xp ?_))
  dsimp only
  split
  · refine Wx.cx ?_
    split
    · exact q1.ex.sl
    · exact q1.ex
  · exact q1.sl.co
abbrev WvS (St : ZS → ZS) : Prop := ∀ n z, Wx n z → Wx n (St z) ∧ (zFt (St z).1 = 0 → snM z + 1 ≤ snM (St z))
abbrev WsS (St : ZS → ZS) : Prop := ∀ n z, Wx n z → Wx (snM z + 1) (St z)
abbrev WvR (Rw : Int → Nat → ZS → ZS × Int) : Prop := ∀ sw js n z, Wx n z → Wx n (Rw sw js z).1 ∧ ((Rw sw js z).2 < 0 ∨ (n : Int) ≤ (Rw sw js z).2) ∧ (Rw sw js z).2 < (snM (Rw sw js z).1 : Int)
variable {St : ZS → ZS} {Rw : Int → Nat → ZS → ZS × Int}
theorem Wx.blk (h : Wx n z) (r : WvR Rw) (q : j < n) {o : List (Int × Int)} : Wx n (blkM Rw j o z) := by
  have a := r 0 0 n (xpM 2 (arM j z)) (h.ar (by omega)).xp
  exact ((a.1.sb (by rcases a.2.1 with b | b <;> omega) (fun _ => a.2.2)).un q).ve.xp
theorem Wx.bo (h : Wx n z) (r : WvR Rw) {m : Nat} {o : List (Int × Int)} : Wx (snM z + 1) (boM Rw m o z) := h.be.blk r (Nat.lt_succ_self _)
theorem Wx.bl (h : Wx n z) (r : WvR Rw) {m : Nat} : Wx (snM z + 1) (blM Rw m z) := id (h.bh.blk r (Nat.lt_succ_self _)).en
theorem Wx.em (h : Wx n z) {m : Nat} : Wx (snM z + 1) (emM m z) := id h.bg.ac.en
theorem wv_bd {X : ZS} (s : WvS St) (h : Wx (j + 1) X) : Wx (j + 1) (bdM j (j + 1) (St X)) := by
  have a := s _ _ h
  have c := h.1.1
  exact a.1.bd (Nat.lt_succ_self _) (Nat.lt_succ_self _) (fun e => by have := a.2 e; omega)
theorem Wx.la (h : Wx n z) (s : WvS St) {m : Nat} : Wx (snM z + 1) (laM m St z) := id ((wv_bd s (h.bh.co.sl.ac.xp.ar (by omega))).co.en)
theorem Wx.if2 (h : Wx n z) (s : WvS St) (q : j < n) {k c : Nat} : Wx n (if2M St j k c z) := by
  have a := h.1.1
  unfold if2M
  split
  · have X : Wx n (arM j (accM (coM 24 k 0 (zAt z.1) z))) := h.co.ac.ar (by omega)
    have y1 : Wx n (St (arM j (accM (coM 24 k 0 (zAt z.1) z)))) := (s _ _ X).1
    have y2 : zFt (St (arM j (accM (coM 24 k 0 (zAt z.1) z)))).1 = 0 → snM z + 1 ≤ snM (St (arM j (accM (coM 24 k 0 (zAt z.1) z)))) := (s _ _ X).2
    generalize St (arM j (accM (coM 24 k 0 (zAt z.1) z))) = w at y1 y2 ⊢
    have y3 : Wx n (seM j (sOt (snM z)) w) := y1.so (Or.inr (by omega)) (fun e => by have := y2 e; omega)
    exact (y3.un q).co.en
  · exact h.co.en
theorem Wx.if (h : Wx n z) (s : WvS St) {m : Nat} : Wx (snM z + 1) (ifM N m St z) := id ((wv_bd s (h.bh.ac.cd.cx.ar (by omega))).if2 s (Nat.lt_succ_self _))
theorem Wx.wh (h : Wx n z) (s : WvS St) {m : Nat} : Wx (snM z + 1) (whM N m St z) := id ((wv_bd s (h.bh.co.ac.cd.cx.ar (by omega))).co.en)
theorem Wx.do (h : Wx n z) (s : WvS St) {m : Nat} : Wx (snM z + 1) (doM N m St z) := id (((wv_bd s (h.bh.co.ac.ar (by omega))).xp.co.cd.xp).cx.en)
theorem Wx.fo1 (h : Wx n z) (q : j < n) {m : Nat} : Wx n (fo1M N j m z) := by
  have a := h.1.1
  unfold fo1M
  split
  · exact (h.dn h.be.va).so (Or.inr (by omega)) (fun _ => Int.ofNat_lt.mpr (h.be.va).1.1)
  split
  · exact h
  · exact (h.dn h.fx).so (Or.inr (by omega)) (fun _ => Int.ofNat_lt.mpr (h.fx).1.1)
theorem Wx.fo2 (h : Wx n z) {k m : Nat} : Wx n (fo2M N j k m z) := by
  unfold fo2M
  split
  · exact h.co
  · exact h.ex.cx
theorem Wx.fo3 (h : Wx n z) (q : j < n) {m : Nat} : Wx n (fo3M N j m z) := by
  have a := h.1.1
  unfold fo3M
  split
  · exact h
  · exact (h.dn h.fx).sg (Or.inr (by omega)) (fun _ => Int.ofNat_lt.mpr (h.fx).1.1)
theorem Wx.fob (h : Wx n z) (q : j < n) {k m : Nat} : Wx n (foB N j k m z) := (((((h.xp.ar (by omega)).fo1 q).xp.co.fo2).xp.co.fo3 q).xp).co
theorem Wx.fo (h : Wx n z) (s : WvS St) {m : Nat} : Wx (snM z + 1) (foM2 N m St z) := by
  have b : Wx (snM z + 1) (foB N (snM z) (tnM z) m (accM (bgH 60 m z))) := h.bh.ac.fob (Nat.lt_succ_self _)
  exact id (((s _ _ b).1.bd (Nat.lt_succ_self _) b.1.1 (fun e => (s _ _ b).2 e)).ve.co.en)
theorem Wx.sw (h : Wx n z) (r : WvR Rw) {m : Nat} : Wx (snM z + 1) (swM N m Rw z) := by
  have a := r 1 (tnM z) (snM z + 1) (swB N m z) (h.bh.ac.cd.cx.ar (by omega)).xp
  exact id (((a.1.sb (by rcases a.2.1 with b | b <;> omega) (fun _ => a.2.2)).un (Nat.lt_succ_self _)).ve.xp.co.en)
theorem Wx.tr1 (h : Wx n z) : Wx n (tr1M z) := by
  unfold tr1M
  split
  · exact h
  · exact h.ra
theorem Wx.tr2 (h : Wx n z) (r : WvR Rw) (q : j < n) {k m : Nat} : Wx n (tr2M N Rw j k m z) := by
  unfold tr2M
  split
  · have b0 : Wx n (caM k z) := h
    have b : Wx n (xpM 1 (seM j (sLk (zVs (xpM 0 (accM (caM k z))).1).length) (dcM N 3 0 1 (xpM 0 (accM (caM k z)))))) := b0.ac.xp.dc.sl.xp
    have a := b.1.1
    exact (b.dn (b.bo r)).so (Or.inr (Int.ofNat_lt.mpr (Nat.lt_of_lt_of_le q a))) (fun _ => Int.ofNat_lt.mpr (b.bo r).1.1)
  · exact h
theorem Wx.tr3 (h : Wx n z) (r : WvR Rw) (q : j < n) {k m : Nat} : Wx n (tr3M Rw j k m z) := by
  unfold tr3M
  split
  · have b : Wx n (accM (coM 52 k 0 (zAt z.1) z)) := h.co.ac
    have a := b.1.1
    exact (b.dn (b.bo r)).sg (Or.inr (Int.ofNat_lt.mpr (Nat.lt_of_lt_of_le q a))) (fun _ => Int.ofNat_lt.mpr (b.bo r).1.1)
  · exact h
theorem Wx.tr (h : Wx n z) (r : WvR Rw) {m : Nat} : Wx (snM z + 1) (trM N m Rw z) := by
  have b1 : Wx (snM z + 1) (trB m z) := (h.bh.ac.co).ar (by omega)
  exact id (((((((b1.dn (b1.bo r)).sb (Or.inr (show (snM z : Int) < (snM z : Int) + 1 by omega)) (fun _ => Int.ofNat_lt.mpr (b1.bo r).1.1)).tr1).tr2 r (Nat.lt_succ_self _)).tr3 r (Nat.lt_succ_self _)).un (Nat.lt_succ_self _)).co.en)
theorem Wx.sm (h : Wx n z) (s : WvS St) (r : WvR Rw) {m : Nat} : Wx (snM z + 1) (smM N m St Rw z) := iv_if (I := Wx (snM z + 1)) (h.if s) (iv_if (I := Wx (snM z + 1)) (h.wh s) (iv_if (I := Wx (snM z + 1)) (h.do s) (iv_if (I := Wx (snM z + 1)) (h.fo s) (iv_if (I := Wx (snM z + 1)) (h.sw r) (iv_if (I := Wx (snM z + 1)) (h.tr r) (iv_if (I := Wx (snM z + 1)) (h.bl r) (iv_if (I := Wx (snM z + 1)) h.em (iv_if (I := Wx (snM z + 1)) h.ju (iv_if (I := Wx (snM z + 1)) h.gi (iv_if (I := Wx (snM z + 1)) (iv_if (I := Wx (snM z + 1)) (h.la s) h.xs) h.xs))))))))))
theorem Wx.rp2 (h : Wx n z) (s : WsS St) {m : Nat} : Wx (snM z + 1) (rp2M N m St z) := by
  unfold rp2M
  split
  · exact h.to
  · exact s _ _ h
theorem Wx.rp (h : Wx n z) (s : WsS St) {m js : Nat} {sw b : Int} : Wx (snM z + 1) (rpM N m St sw js b z) := by
  unfold rpM
  split
  · split
    · exact h.cs
    split
    · exact h.ra.rp2 s
    · exact h.rp2 s
  · exact h.rp2 s
end
theorem Wx.rwl {N : Int → Int} {St : ZS → ZS} (s : WsS St) {m js : Nat} {sw : Int} : ∀ (k n : Nat) (f l : Int) (z : ZS), Wx n z → (f < 0 ∨ (n : Int) ≤ f) → f < (snM z : Int) → l < (snM z : Int) → Wx n (rwlM N m St sw js k f l z).1 ∧ ((rwlM N m St sw js k f l z).2 < 0 ∨ (n : Int) ≤ (rwlM N m St sw js k f l z).2) ∧ (rwlM N m St sw js k f l z).2 < (snM (rwlM N m St sw js k f l z).1 : Int) := by
  intro k
  induction k with
  | zero => exact fun _ _ _ _ h q qf _ => ⟨h, q, qf⟩
  | succ k ih =>
    intro n f l z h q qf ql
    rw [rwlM]
    split
    · split
      · exact ⟨h, q, qf⟩
      · have a := h.1.1
        have h1 : Wx (snM z + 1) (nxM l (snM z) (rpM N m St sw js (if f < 0 then 1 else 0) z)) := by
          unfold nxM
          split
          · exact h.rp s
          · exact (h.rp s).sn (Or.inr (by omega)) (fun _ => Int.ofNat_lt.mpr (h.rp s).1.1)
        generalize nxM l (snM z) (rpM N m St sw js (if f < 0 then 1 else 0) z) = y at h1 ⊢
        have a1 := h1.1.1
        exact ih n _ _ y (h1.mo (by omega)) (by split <;> omega) (by split <;> omega) (by omega)
    · exact ⟨h, q, qf⟩
theorem Wx.ls {N : Int → Int} : ∀ m, WvS (lsM N m).1 ∧ WvR (lsM N m).2 := by
  intro m
  induction m with
  | zero => exact ⟨fun _ _ h => ⟨h.ra, fun e => absurd e (raiY_z (by decide))⟩, fun _ _ _ z h => ⟨h.ra, Or.inl (by show (-1 : Int) < 0; decide), by show (-1 : Int) < ((snM z : Nat) : Int); omega⟩⟩
  | succ m ih =>
    have s : WsS (smM N (m + 1) (lsM N m).1 (lsM N m).2) := fun _ _ h => h.sm ih.1 ih.2
    exact ⟨fun n z h => ⟨(s n z h).mo (Nat.le_succ_of_le h.1.1), fun _ => (s n z h).1.1⟩, fun sw js n z h => Wx.rwl s 501 n (-1) (-1) z h (Or.inl (by decide)) (by omega) (by omega)⟩
section
variable {n : Nat} {z : ZS} {N : Int → Int}
theorem Wx.pa2 (h : Wx n z) {i : Nat} {ty f : Int} : Wx n (pa2M N i ty f z) := by
  unfold pa2M
  split
  · exact h.dc (N := N) (ty := ty) (f := f) (g := 1)
  · exact h.dc
theorem Wx.pa1 (h : Wx n z) {i : Nat} : Wx n (pa1M N i z) := by
  unfold pa1M
  split
  · exact (h.ac.ty).pa2
  · exact (h.ty).pa2
end
theorem Wx.pal {N : Int → Int} {n : Nat} : ∀ (f i : Nat) (z : ZS), Wx n z → Wx n (palM N f i z) := by
  intro f
  induction f with
  | zero => exact fun _ _ q => q
  | succ f ih =>
    intro i z q
    rw [palM]
    split
    · exact ih _ _ q.pa1.ac
    · exact q.pa1
theorem Wx.pa {N : Int → Int} {n : Nat} {z : ZS} (q : Wx n z) : Wx n (paM N z) := by
  refine Wx.xp ?_
  have q1 : Wx n (xpM 0 z) := q.xp
  unfold pa3M
  split
  · exact q1
  · exact Wx.pal 7 0 _ q1
theorem Wx.me {N : Int → Int} {n : Nat} {z : ZS} (q : Wx n z) : Wx n (meM N z) := by
  have q1 : Wx n (me1M z) := by
    unfold me1M
    split
    · exact q
    · exact q.ra
  have q2 : Wx n (me2M (accM (me1M z))) := by
    have q3 := q1.ac
    unfold me2M
    split
    · split
      · exact q3.ra
      · exact q3
    · exact q3.ra
  show Wx n (me3M N (codY z.1 - 50) (me2M (accM (me1M z))))
  generalize me2M (accM (me1M z)) = y at q2 ⊢
  unfold me3M
  split
  · have q4 : Wx n (me0M (codY z.1 - 50) y) := ⟨⟨q2.1.1, by show (-1 : Int) < ((snM y : Nat) : Int); omega, q2.1.2.2⟩, q2.2⟩
    exact (q4.ac.pa.dn (q4.ac.pa.bo (Wx.ls 20).2)).co
  · exact q2
/-- all that is read keeps it -/
theorem Wx.pr {N : Int → Int} {n : Nat} : ∀ (f : Nat) (z : ZS), Wx n z → Wx n (prM N f z) := by
  intro f
  induction f with
  | zero => exact fun _ q => q
  | succ f ih =>
    intro z q
    rw [prM]
    split
    · split
      · exact q
      · exact ih _ q.me
    · exact q
/-- links of S's are below how many there are -/
theorem wl_pr {N : Int → Int} {f : Nat} {z : ZS} (h0 : snM z = 0) (ha : z.2.2.2.1.2 < 0) (hf : zFt (prM N f z).1 = 0) : ∀ j, j < snM (prM N f z) → lkW (snM (prM N f z)) (reS (prM N f z) j) := (Wx.pr (N := N) (n := 0) f z ⟨⟨Nat.zero_le _, by omega, fun j hj => by omega⟩, fun _ j hj => by omega⟩).2 hf
