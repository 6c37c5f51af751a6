/-! what is known stays small, so links do -/
def OkO (I : ZS → Prop) (o : List (Int × Int)) : Prop := o = [] ∨ ∃ z, I z ∧ (o = z.2.2.2.1.1 ∨ ∃ j, o = knS z j)
def ClB (N : Int → Int) (I : ZS → Prop) : Prop := (((∀ z s', I z → s'.2 = z.1.2 → zAt z.1 ≤ zAt s' → I (s', z.2)) ∧ ∀ z c, I z → I (z.1, .inr c :: z.2.1, z.2.2)) ∧ (∀ z j f, I z → (∀ x : SrZ, (f x).2.1 = x.2.1) → I (seM j f z)) ∧ ((∀ z j, I z → I (arM j z)) ∧ (∀ z k l, I z → I (beM k l z)) ∧ (∀ z, I z → I (thM z)) ∧ (∀ z t o, I z → OkO I o → I (veM t o z)) ∧ ∀ z ty f g, I z → I (dcM N ty f g z)) ∧ (∀ z ty, I z → I (me0M ty z)) ∧ ∀ z ty, I z → I (padY ty z.1, z.2)) ∧ ((∀ z, I z → ((zVs z.1).length : Int) < 64) ∧ ∀ z x, I z → x.1.1 = 15 → x.2.1.2.1 < 64 → I (puM x z)) ∧ True ∧ ∀ n, IvM I (eM N n)
section
variable {N : Int → Int} {I : ZS → Prop} {z : ZS}
theorem ClB.ac (h : ClB N I) (q : I z) : I (accM z) := h.1.1.1 z _ q mv_acc.1 mv_acc.2
theorem ClB.ra (h : ClB N I) {c : Int} (q : I z) : I (raiM c z) := h.1.1.1 z _ q mv_rai.1 mv_rai.2
theorem ClB.xp (h : ClB N I) {c : Int} (q : I z) : I (xpM c z) := h.1.1.1 z _ q mv_xp.1 mv_xp.2
theorem ClB.ty (h : ClB N I) (q : I z) : I (typM z) := h.1.1.1 z _ q mv_typ.1 mv_typ.2
theorem ClB.se (h : ClB N I) {j : Nat} {f : SrZ → SrZ} (e : ∀ x : SrZ, (f x).2.1 = x.2.1) (q : I z) : I (seM j f z) := h.1.2.1 z j f q e
theorem ClB.ar (h : ClB N I) {j : Int} (q : I z) : I (arM j z) := h.1.2.2.1.1 z j q
theorem ClB.un (h : ClB N I) {j : Nat} (q : I z) : I (unM j z) := h.ar q
theorem ClB.be (h : ClB N I) {k l : Int} (q : I z) : I (beM k l z) := h.1.2.2.1.2.1 z k l q
theorem ClB.th (h : ClB N I) (q : I z) : I (thM z) := h.1.2.2.1.2.2.1 z q
theorem ClB.ve (h : ClB N I) {t : Int} {o : List (Int × Int)} (ho : OkO I o) (q : I z) : I (veM t o z) := h.1.2.2.1.2.2.2.1 z t o q ho
theorem ClB.dc (h : ClB N I) {ty f g : Int} (q : I z) : I (dcM N ty f g z) := h.1.2.2.1.2.2.2.2 z ty f g q
theorem ClB.co (h : ClB N I) {o a b t : Int} (q : I z) : I (coM o a b t z) := h.1.1.2 z _ q
theorem ClB.cx (h : ClB N I) {o a b t : Int} (q : I z) : I (cxM o a b t z) := h.1.1.2 z _ q
theorem ClB.bg (h : ClB N I) {k : Int} {n : Nat} (q : I z) : I (bgM k n z) := h.co (h.be q)
theorem ClB.bh (h : ClB N I) {k : Int} {n : Nat} (q : I z) : I (bgH k n z) := h.th (h.bg q)
theorem ClB.en (h : ClB N I) {j c : Nat} (q : I z) : I (enM j c z) := h.co q
theorem ClB.po (h : ClB N I) (q : I z) : I (poM z) := h.cx q
theorem ClB.ex (h : ClB N I) {j n : Nat} (q : I z) : I (exS N j n z) := h.se (fun _ => rfl) (h.2.2.2 n z q)
theorem ClB.cd (h : ClB N I) {j n : Nat} (q : I z) : I (cdM N j n z) := h.xp (h.ex (h.xp q))
theorem ClB.bd (h : ClB N I) {j k : Nat} (q : I z) : I (bdM j k z) := h.un (h.se (fun _ => rfl) q)
theorem ClB.xs (h : ClB N I) {n : Nat} (q : I z) : I (xsM N n z) := h.en (h.xp (h.po (h.ex (h.bg q))))
theorem ClB.va2 (h : ClB N I) {j n : Nat} {f v t : Int} (hv : v < 64) (q : I z) : I (va2M N j n f v t z) := by
  unfold va2M
  split
  · have q1 : I (coM 22 v 2 t z) := h.co q
    have q2 : I (exS N j n (xpM 8 (coM 22 v 2 t z))) := h.ex (h.xp q1)
    exact h.2.1.2 _ _ q2 rfl hv
  · exact h.co q
theorem ClB.va1 (h : ClB N I) {j n : Nat} {f ty : Int} (q : I z) : I (va1M N j n f ty z) := h.va2 (h.2.1.1 z q) (h.se (fun _ => rfl) (h.dc q))
theorem ClB.va (h : ClB N I) {j n : Nat} (q : I z) : I (vaM N j n z) := by
  unfold vaM
  split
  · exact h.va1 (h.ty (h.ac q))
  · exact h.va1 (h.ty q)
theorem ClB.to (h : ClB N I) {n : Nat} (q : I z) : I (toM N n z) := h.en (h.xp (h.va (h.bg q)))
theorem ClB.fx1 (h : ClB N I) {n : Nat} (q : I z) : I (fx1M N n z) := h.po (h.ex (h.be q))
end
theorem ClB.fxl {N : Int → Int} {I : ZS → Prop} (h : ClB N I) {n : Nat} : ∀ (f j : Nat) (z : ZS), I z → I (fxlM N n f j z) := by
  intro f
  induction f with
  | zero => exact fun _ _ q => q
  | succ f ih =>
    intro j z q
    rw [fxlM]
    split
    · exact ih _ _ (h.se (fun _ => rfl) (h.fx1 (h.ac q)))
    · exact q
section
variable {N : Int → Int} {I : ZS → Prop} {z : ZS}
theorem ClB.fx (h : ClB N I) {n : Nat} (q : I z) : I (fxM N n z) := h.fxl 501 _ _ (h.fx1 q)
theorem ClB.cs (h : ClB N I) {n : Nat} {js : Int} (q : I z) : I (csM N js n z) := by
  unfold csM
  split
  · exact h.xp (h.cx (h.ex (h.ac (h.be q))))
  · exact h.xp (h.co (h.ac (h.be q)))
theorem ClB.ju (h : ClB N I) {n : Nat} {k : Int} (q : I z) : I (juM N k n z) := by
  have q1 : I (accM (bgM k n z)) := h.ac (h.bg q)
  refine h.en (h.xp ?_)
  split
  · exact h.ac (h.co (h.se (fun _ => rfl) q1))
  · exact h.co q1
theorem ClB.gi (h : ClB N I) {n : Nat} {k : Int} (q : I z) : I (giM N k n z) := by
  have q1 : I (accM (bgM k n z)) := h.ac (h.bg q)
  refine h.en (h.xp ?_)
  dsimp only
  split
  · refine h.cx ?_
    split
    · exact h.se (fun _ => rfl) (h.ex q1)
    · exact h.ex q1
  · exact h.co (h.se (fun _ => rfl) q1)
variable {St : ZS → ZS} {Rw : Int → Nat → ZS → ZS × Int}
theorem ClB.blk (h : ClB N I) (r : RvA I Rw) {j : Nat} {o : List (Int × Int)} (ho : OkO I o) (q : I z) : I (blkM Rw j o z) := h.xp (h.ve ho (h.un (h.se (fun _ => rfl) (r _ _ _ (h.xp (h.ar q))))))
theorem ClB.bo (h : ClB N I) (r : RvA I Rw) {n : Nat} {o : List (Int × Int)} (ho : OkO I o) (q : I z) : I (boM Rw n o z) := h.blk r ho (h.be q)
theorem ClB.bl (h : ClB N I) (r : RvA I Rw) {n : Nat} (q : I z) : I (blM Rw n z) := h.en (h.blk r (Or.inr ⟨z, q, Or.inl rfl⟩) (h.bh q))
theorem ClB.em (h : ClB N I) {n : Nat} (q : I z) : I (emM n z) := h.en (h.ac (h.bg q))
theorem ClB.la (h : ClB N I) (s : IvM I St) {n : Nat} (q : I z) : I (laM n St z) := h.en (h.co (h.bd (s _ (h.ar (h.xp (h.ac (h.se (fun _ => rfl) (h.co (h.bh q)))))))))
theorem ClB.ifX (h : ClB N I) {j k c : Nat} (q : I z) : I (ifX j k c z) := h.en (h.co q)
theorem ClB.if2 (h : ClB N I) (s : IvM I St) {j k c : Nat} (q : I z) : I (if2M St j k c z) := by
  unfold if2M
  split
  · exact h.ifX (h.un (h.se (fun _ => rfl) (s _ (h.ar (h.ac (h.co q))))))
  · exact h.ifX q
theorem ClB.if (h : ClB N I) (s : IvM I St) {n : Nat} (q : I z) : I (ifM N n St z) := h.if2 s (h.bd (s _ (h.ar (h.cx (h.cd (h.ac (h.bh q)))))))
theorem ClB.wh (h : ClB N I) (s : IvM I St) {n : Nat} (q : I z) : I (whM N n St z) := h.en (h.co (h.bd (s _ (h.ar (h.cx (h.cd (h.ac (h.co (h.bh q)))))))))
theorem ClB.do (h : ClB N I) (s : IvM I St) {n : Nat} (q : I z) : I (doM N n St z) := h.en (h.cx (h.xp (h.cd (h.co (h.xp (h.bd (s _ (h.ar (h.ac (h.co (h.bh q)))))))))))
theorem ClB.fo1 (h : ClB N I) {j n : Nat} (q : I z) : I (fo1M N j n z) := by
  unfold fo1M
  split
  · exact h.se (fun _ => rfl) (h.va (h.be q))
  split
  · exact q
  · exact h.se (fun _ => rfl) (h.fx q)
theorem ClB.fo2 (h : ClB N I) {j k n : Nat} (q : I z) : I (fo2M N j k n z) := by
  unfold fo2M
  split
  · exact h.co q
  · exact h.cx (h.ex q)
theorem ClB.fo3 (h : ClB N I) {j n : Nat} (q : I z) : I (fo3M N j n z) := by
  unfold fo3M
  split
  · exact q
  · exact h.se (fun _ => rfl) (h.fx q)
theorem ClB.foB (h : ClB N I) {j k n : Nat} (q : I z) : I (foB N j k n z) := h.co (h.xp (h.fo3 (h.co (h.xp (h.fo2 (h.co (h.xp (h.fo1 (h.ar (h.xp q))))))))))
theorem ClB.fo (h : ClB N I) (s : IvM I St) {n : Nat} (q : I z) : I (foM2 N n St z) := by
  have q1 := s _ (h.foB (j := snM z) (k := tnM z) (n := n) (h.ac (h.bh (k := 60) (n := n) q)))
  exact h.en (h.co (h.ve (Or.inr ⟨_, q1, Or.inr ⟨_, rfl⟩⟩) (h.bd q1)))
theorem ClB.sw (h : ClB N I) (r : RvA I Rw) {n : Nat} (q : I z) : I (swM N n Rw z) := by
  have q1 : I (swB N n z) := h.xp (h.ar (h.cx (h.cd (h.ac (h.bh q)))))
  have q2 := r 1 (tnM z) _ q1
  exact h.en (h.co (h.xp (h.ve (Or.inr ⟨_, q2, Or.inr ⟨_, rfl⟩⟩) (h.un (h.se (fun _ => rfl) q2)))))
theorem ClB.tr1 (h : ClB N I) (q : I z) : I (tr1M z) := by
  unfold tr1M
  split
  · exact q
  · exact h.ra q
theorem ClB.tr2 (h : ClB N I) (r : RvA I Rw) {j k n : Nat} (q : I z) : I (tr2M N Rw j k n z) := by
  unfold tr2M
  split
  · refine h.se (fun _ => rfl) (h.bo r (Or.inr ⟨z, q, Or.inr ⟨_, rfl⟩⟩) (h.xp (h.se (fun _ => rfl) (h.dc (h.xp (h.ac ?_))))))
    exact h.1.1.2 z _ q
  · exact q
theorem ClB.tr3 (h : ClB N I) (r : RvA I Rw) {j k n : Nat} (q : I z) : I (tr3M Rw j k n z) := by
  unfold tr3M
  split
  · exact h.se (fun _ => rfl) (h.bo r (Or.inr ⟨z, q, Or.inr ⟨_, rfl⟩⟩) (h.ac (h.co q)))
  · exact q
theorem ClB.tr (h : ClB N I) (r : RvA I Rw) {n : Nat} (q : I z) : I (trM N n Rw z) := h.en (h.co (h.un (h.tr3 r (h.tr2 r (h.tr1 (h.se (fun _ => rfl) (h.bo r (Or.inr ⟨z, q, Or.inl rfl⟩) (h.ar (h.co (h.ac (h.bh q)))))))))))
theorem ClB.sm (h : ClB N I) (s : IvM I St) (r : RvA I Rw) {n : Nat} (q : I z) : I (smM N n St Rw z) := iv_if (h.if s q) (iv_if (h.wh s q) (iv_if (h.do s q) (iv_if (h.fo s q) (iv_if (h.sw r q) (iv_if (h.tr r q) (iv_if (h.bl r q) (iv_if (h.em q) (iv_if (h.ju q) (iv_if (h.gi q) (iv_if (iv_if (h.la s q) (h.xs q)) (h.xs q)))))))))))
theorem ClB.rp2 (h : ClB N I) (s : IvM I St) {n : Nat} (q : I z) : I (rp2M N n St z) := by
  unfold rp2M
  split
  · exact h.to q
  · exact s _ q
theorem ClB.rp (h : ClB N I) (s : IvM I St) {n js : Nat} {sw b : Int} (q : I z) : I (rpM N n St sw js b z) := by
  unfold rpM
  split
  · split
    · exact h.cs q
    split
    · exact h.rp2 s (h.ra q)
    · exact h.rp2 s q
  · exact h.rp2 s q
theorem ClB.nx (h : ClB N I) {l : Int} {j : Nat} (q : I z) : I (nxM l j z) := by
  unfold nxM
  split
  · exact q
  · exact h.se (fun _ => rfl) q
end
theorem ClB.rwl {N : Int → Int} {I : ZS → Prop} (h : ClB N I) {St : ZS → ZS} (s : IvM I St) {n js : Nat} {sw : Int} : ∀ (k : Nat) (f l : Int) (z : ZS), I z → I (rwlM N n St sw js k f l z).1 := by
  intro k
  induction k with
  | zero => exact fun _ _ _ q => q
  | succ k ih =>
    intro f l z q
    rw [rwlM]
    split
    · split
      · exact q
      · exact ih _ _ _ (h.nx (h.rp s q))
    · exact q
theorem ClB.ls {N : Int → Int} {I : ZS → Prop} (h : ClB N I) : ∀ n, IvM I (lsM N n).1 ∧ RvA I (lsM N n).2 := by
  intro n
  induction n with
  | zero => exact ⟨fun _ q => h.ra q, fun _ _ _ q => h.ra q⟩
  | succ n ih =>
    have s : IvM I (smM N (n + 1) (lsM N n).1 (lsM N n).2) := fun _ q => h.sm ih.1 ih.2 q
    exact ⟨s, fun sw js z q => h.rwl s 501 (-1) (-1) z q⟩
section
variable {N : Int → Int} {I : ZS → Prop} {z : ZS}
theorem ClB.pa2 (h : ClB N I) {i : Nat} {ty f : Int} (q : I z) : I (pa2M N i ty f z) := by
  unfold pa2M
  split
  · exact h.1.2.2.2.2 _ _ (h.dc q)
  · exact h.dc q
theorem ClB.pa1 (h : ClB N I) {i : Nat} (q : I z) : I (pa1M N i z) := by
  unfold pa1M
  split
  · exact h.pa2 (h.ty (h.ac q))
  · exact h.pa2 (h.ty q)
end
theorem ClB.pal {N : Int → Int} {I : ZS → Prop} (h : ClB N I) : ∀ (f i : Nat) (z : ZS), I z → I (palM N f i z) := by
  intro f
  induction f with
  | zero => exact fun _ _ q => q
  | succ f ih =>
    intro i z q
    rw [palM]
    split
    · exact ih _ _ (h.ac (h.pa1 q))
    · exact h.pa1 q
theorem ClB.pa {N : Int → Int} {I : ZS → Prop} (h : ClB N I) {z : ZS} (q : I z) : I (paM N z) := by
  refine h.xp ?_
  have q1 : I (xpM 0 z) := h.xp q
  unfold pa3M
  split
  · exact q1
  · exact h.pal 7 0 _ q1
theorem ClB.me {N : Int → Int} {I : ZS → Prop} (h : ClB N I) {z : ZS} (q : I z) : I (meM N z) := by
  have q1 : I (me1M z) := by
    unfold me1M
    split
    · exact q
    · exact h.ra q
  have q2 : I (me2M (accM (me1M z))) := by
    have q3 := h.ac q1
    unfold me2M
    split
    · split
      · exact h.ra q3
      · exact q3
    · exact h.ra q3
  show I (me3M N (codY z.1 - 50) (me2M (accM (me1M z))))
  generalize me2M (accM (me1M z)) = y at q2 ⊢
  unfold me3M
  split
  · refine h.co (h.bo (h.ls 20).2 (Or.inl rfl) (h.pa (h.ac ?_)))
    exact h.1.2.2.2.1 _ _ q2
  · exact q2
/-- all that is read keeps it -/
theorem ClB.pr {N : Int → Int} {I : ZS → Prop} (h : ClB N I) : ∀ (f : Nat) (z : ZS), I z → I (prM N f z) := by
  intro f
  induction f with
  | zero => exact fun _ q => q
  | succ f ih =>
    intro z q
    rw [prM]
    split
    · split
      · exact q
      · exact ih _ (h.me q)
    · exact q
/-- what is known is below 64, and so are links -/
def KvB (o : List (Int × Int)) : Prop := ∀ p ∈ o, p.1 ≤ 60
def VbB (z : ZS) : Prop := (0 ≤ zAt z.1 ∧ (zVs z.1).length ≤ 60) ∧ (KvB z.2.2.2.1.1 ∧ ∀ j, KvB (knS z j)) ∧ ∀ i, i < xnM z → ¬ (xth z i).1.1 = 10 → (xth z i).2.1.2.1 < 64
theorem lk_le {N : Int → Int} {t : Int} : ∀ {o : List (Int × Int)}, KvB o → lkZ N o t ≤ 60 := by
  intro o
  induction o with
  | nil => exact fun _ => by show (-1 : Int) ≤ 60; decide
  | cons p o ih =>
    obtain ⟨v, k⟩ := p
    intro h
    rw [lkZ]
    split
    · exact h (v, k) List.mem_cons_self
    · exact ih (fun p q => h p (List.mem_cons_of_mem _ q))
theorem VbB.pu {z : ZS} {x : XrZ} (h : VbB z) (q : ¬ x.1.1 = 10 → x.2.1.2.1 < 64) : VbB (puM x z) := by
  refine ⟨h.1, h.2.1, fun i hi => ?_⟩
  have e : xth (puM x z) i = if i = xnM z then x else xth z i := rfl
  rw [e]
  split
  · exact q
  · have : i < xnM z + 1 := hi
    exact h.2.2 i (by omega)
theorem vb_cl {N : Int → Int} : ClX N VbB := ⟨⟨fun _ h => h.1.1, fun z s' h e q => ⟨⟨Int.le_trans h.1.1 q, by have := h.1.2; unfold zVs at *; rw [e]; exact this⟩, h.2⟩⟩, fun z x h q => h.pu (fun _ => by
    by_cases c : x.1.1 = 2 ∨ x.1.1 = 6 ∨ x.1.1 = 9 ∨ x.1.1 = 14
    · rw [q.2.1.1 c]
      have := lk_le (N := N) (t := x.2.1.1) h.2.1.1
      show lkZ N z.2.2.2.1.1 x.2.1.1 < 64
      omega
    · have := q.2.1.2 c
      omega)⟩
theorem vs_dcl {ty f g : Int} {s : SpC} (h : (zVs s).length ≤ 60) : (zVs (dclY ty f g s)).length ≤ 60 := by
  have e1 : (zVs (dc1Y g s)) = zVs s := by
    unfold dc1Y
    split
    · split
      · unfold zVs; rw [mv_rai.1]
      · rfl
    · unfold zVs; rw [mv_rai.1]
  show (zVs (dc2Y ty f (dc1Y g s))).length ≤ 60
  unfold dc2Y
  split
  · rename_i c
    have e2 : (zVs (accY (vadY ty f (dc1Y g s)))).length = (zVs (dc1Y g s)).length + 1 := by
      unfold zVs
      rw [mv_acc.1]
      rfl
    rw [e2, e1]
    unfold dc1Y at c
    split at c
    · split at c
      · exact absurd c (raiY_z (by decide))
      · omega
    · exact absurd c (raiY_z (by decide))
  · rw [e1]
    exact h
theorem kv_ok {o : List (Int × Int)} (h : OkO VbB o) : KvB o := by
  rcases h with e | ⟨z, h, e | ⟨j, e⟩⟩
  · rw [e]
    exact fun p q => absurd q List.not_mem_nil
  · rw [e]
    exact h.2.1.1
  · rw [e]
    exact h.2.1.2 j
theorem vb_ca {N : Int → Int} : ClB N VbB := by
  refine ⟨⟨⟨vb_cl (N := N).1.2, fun z c h => h⟩, fun z j f h e => ⟨h.1, ⟨h.2.1.1, fun k => ?_⟩, h.2.2⟩, ⟨fun z j h => h, fun z k l h => ⟨h.1, ⟨h.2.1.1, fun i => ?_⟩, h.2.2⟩, fun z h => h, fun z t o h q => ⟨h.1, ⟨kv_ok q, h.2.1.2⟩, h.2.2⟩, fun z ty f g h => ⟨⟨Int.le_trans h.1.1 mv_dcl, vs_dcl h.1.2⟩, ⟨fun p q => ?_, h.2.1.2⟩, h.2.2⟩⟩, fun z ty h => ⟨h.1, ⟨fun p q => absurd q List.not_mem_nil, h.2.1.2⟩, h.2.2⟩, fun z ty h => h⟩, ⟨fun z h => by have := h.1.2; omega, fun z x h _ q => h.pu (fun _ => q)⟩, trivial, fun _ => iv_e vb_cl⟩
  · show KvB (if k = j then f (z.2.2.1.2 j) else z.2.2.1.2 k).2.1
    split
    · rw [e]
      exact h.2.1.2 j
    · exact h.2.1.2 k
  · show KvB (if i = snM z then _ else z.2.2.1.2 i).2.1
    split
    · exact h.2.1.1
    · exact h.2.1.2 i
  · rcases List.mem_cons.mp q with e | m
    · rw [e]
      have := h.1.2
      show (((zVs z.1).length : Nat) : Int) ≤ 60
      omega
    · exact h.2.1.1 p m
/-- links are below 64 -/
theorem vb_pr {N : Int → Int} {f : Nat} {s : SpC} (h0 : 0 ≤ zAt s) (hv : zVs s = []) : VbB (prM N f (z0S s)) := vb_ca.pr f _ ⟨⟨h0, by show (zVs s).length ≤ 60; rw [hv]; exact Nat.zero_le _⟩, ⟨fun p q => absurd q List.not_mem_nil, fun j p q => absurd q List.not_mem_nil⟩, fun i hi => absurd hi (Nat.not_lt_zero i)⟩
theorem sx_pr {N : Int → Int} {f : Nat} {s : SpC} (h0 : 0 ≤ zAt s) (hv : zVs s = []) : SxS (prM N f (z0S s)) := fun k hk => ⟨((xs_pr (N := N) (f := f) (z := z0S s) h0 rfl).2 k hk).1.1, (vb_pr h0 hv).2.2 k hk⟩
