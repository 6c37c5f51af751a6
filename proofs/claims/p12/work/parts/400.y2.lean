/-! what reading an S leaves alone: codes, records of S's, things -/
def GuL (k0 js : Int) (m : Nat) (t : List ItZ) : Prop := ∀ y, Sum.inr y ∈ t → ¬ y.1 = 54 ∧ (thO y.1 = true → (k0 ≤ y.2.1 ∧ y.2.1 < (m : Int)) ∨ y.2.1 = js)
theorem GuL.mo {k0 js : Int} {m n : Nat} {t : List ItZ} (h : GuL k0 js m t) (q : m ≤ n) : GuL k0 js n t := fun y hy => ⟨(h y hy).1, fun o => ((h y hy).2 o).imp (fun p => ⟨p.1, by have := p.2; omega⟩) id⟩
def Gu (z0 : ZS) (b e : Nat) (k0 js : Int) (m : Nat) (z : ZS) : Prop := (∃ t, z.2.1 = t ++ z0.2.1 ∧ GuL k0 js (tnM z) t) ∧ (m ≤ tnM z ∧ k0 ≤ (tnM z : Int)) ∧ b ≤ snM z ∧ ∀ i, i < b → ¬ i = e → reS z i = reS z0 i
section
variable {z0 : ZS} {b e : Nat} {k0 js : Int} {m j : Nat} {z : ZS}
theorem Gu.rf : Gu z (snM z) e (tnM z) js (tnM z) z := ⟨⟨[], rfl, fun _ q => absurd q List.not_mem_nil⟩, ⟨Nat.le_refl _, Int.le_refl _⟩, Nat.le_refl _, fun _ _ _ => rfl⟩
theorem Gu.mo {n : Nat} (h : Gu z0 b e k0 js m z) (q : n ≤ m) : Gu z0 b e k0 js n z := ⟨h.1, ⟨Nat.le_trans q h.2.1.1, h.2.1.2⟩, h.2.2⟩
theorem Gu.zz {z' : ZS} (h : Gu z0 b e k0 js m z) (q : z'.2.1 = z.2.1) (q1 : z'.2.2.1 = z.2.2.1) (q2 : tnM z' = tnM z) : Gu z0 b e k0 js m z' := by
  unfold Gu snM reS at *
  rw [q, q1, q2]
  exact h
theorem Gu.ac (h : Gu z0 b e k0 js m z) : Gu z0 b e k0 js m (accM z) := h
theorem Gu.ra {c : Int} (h : Gu z0 b e k0 js m z) : Gu z0 b e k0 js m (raiM c z) := h
theorem Gu.xp {c : Int} (h : Gu z0 b e k0 js m z) : Gu z0 b e k0 js m (xpM c z) := h
theorem Gu.ty (h : Gu z0 b e k0 js m z) : Gu z0 b e k0 js m (typM z) := h
theorem Gu.ve {t : Int} {o : List (Int × Int)} (h : Gu z0 b e k0 js m z) : Gu z0 b e k0 js m (veM t o z) := h
theorem Gu.ar {i : Int} (h : Gu z0 b e k0 js m z) : Gu z0 b e k0 js m (arM i z) := h
theorem Gu.un (h : Gu z0 b e k0 js m z) : Gu z0 b e k0 js m (unM j z) := h
theorem Gu.dc {N : Int → Int} {ty f g : Int} (h : Gu z0 b e k0 js m z) : Gu z0 b e k0 js m (dcM N ty f g z) := h
theorem Gu.th (h : Gu z0 b e k0 js m z) : Gu z0 b e k0 js (tnM z + 1) (thM z) := by
  obtain ⟨⟨t, e, q⟩, ⟨h1, h2⟩, h3⟩ := h
  exact ⟨⟨t, e, q.mo (Nat.le_succ _)⟩, ⟨Nat.le_refl _, by show k0 ≤ ((tnM z + 1 : Nat) : Int); omega⟩, h3⟩
theorem Gu.it {y : Int × Int × Int × Int × Int} (h : Gu z0 b e k0 js m z) (q : ¬ y.1 = 54) (hk : thO y.1 = true → (k0 ≤ y.2.1 ∧ y.2.1 < (m : Int)) ∨ y.2.1 = js) : Gu z0 b e k0 js m (z.1, .inr y :: z.2.1, z.2.2) := by
  obtain ⟨⟨t, e, p⟩, ⟨h1, h2⟩, h3⟩ := h
  refine ⟨⟨.inr y :: t, by show Sum.inr y :: z.2.1 = _; rw [e]; rfl, fun x hx => ?_⟩, ⟨h1, h2⟩, h3⟩
  rcases List.mem_cons.mp hx with hx | hx
  · cases hx
    exact ⟨q, fun o => (hk o).imp (fun w => ⟨w.1, by show y.2.1 < ((tnM z : Nat) : Int); have := w.2; omega⟩) id⟩
  · exact p x hx
theorem Gu.c0 {o a c t : Int} (h : Gu z0 b e k0 js m z) (q : ¬ o = 54) (q' : thO o = false) : Gu z0 b e k0 js m (coM o a c t z) := h.it q (fun w => absurd (q'.symm.trans w) (by decide))
theorem Gu.x0 {o a c t : Int} (h : Gu z0 b e k0 js m z) (q : ¬ o = 54) (q' : thO o = false) : Gu z0 b e k0 js m (cxM o a c t z) := h.it q (fun w => absurd (q'.symm.trans w) (by decide))
theorem Gu.ck {o a c t : Int} (h : Gu z0 b e k0 js m z) (q : ¬ o = 54) (hk : (k0 ≤ a ∧ a < (m : Int)) ∨ a = js) : Gu z0 b e k0 js m (coM o a c t z) := h.it q (fun _ => hk)
theorem Gu.xk {o a c t : Int} (h : Gu z0 b e k0 js m z) (q : ¬ o = 54) (hk : (k0 ≤ a ∧ a < (m : Int)) ∨ a = js) : Gu z0 b e k0 js m (cxM o a c t z) := h.it q (fun _ => hk)
theorem Gu.pu {x : XrZ} (h : Gu z0 b e k0 js m z) : Gu z0 b e k0 js m (puM x z) := by
  obtain ⟨⟨t, e, p⟩, h2⟩ := h
  refine ⟨⟨.inl x :: t, by show Sum.inl x :: z.2.1 = _; rw [e]; rfl, fun y hy => ?_⟩, h2⟩
  rcases List.mem_cons.mp hy with hy | hy
  · cases hy
  · exact p y hy
theorem Gu.xs_ {z' : ZS} (h : Gu z0 b e k0 js m z) (q : XsR z.2.1 z'.2.1) (q1 : z'.2.2 = z.2.2) : Gu z0 b e k0 js m z' := by
  obtain ⟨⟨t, e, p⟩, h2⟩ := h
  obtain ⟨u, hu⟩ := q
  refine ⟨⟨u.map Sum.inl ++ t, by rw [hu, e, List.append_assoc], fun y hy => ?_⟩, ?_⟩
  · rcases List.mem_append.mp hy with hy | hy
    · obtain ⟨x, _, hx⟩ := List.mem_map.mp hy
      cases hx
    · have := p y hy
      unfold tnM at *
      rw [q1]
      exact this
  · unfold tnM snM reS at *
    rw [q1]
    exact h2
theorem Gu.se {f : SrZ → SrZ} (h : Gu z0 b e k0 js m z) (q : b ≤ j ∨ j = e) : Gu z0 b e k0 js m (seM j f z) := by
  refine ⟨h.1, h.2.1, h.2.2.1, fun i hi hn => ?_⟩
  show (if i = j then f (z.2.2.1.2 j) else z.2.2.1.2 i) = _
  rw [if_neg (by omega)]
  exact h.2.2.2 i hi hn
theorem Gu.be {k l : Int} (h : Gu z0 b e k0 js m z) : Gu z0 b e k0 js m (beM k l z) := by
  have a := h.2.2.1
  refine ⟨h.1, h.2.1, by show b ≤ snM z + 1; omega, fun i hi hn => ?_⟩
  show (if i = snM z then _ else z.2.2.1.2 i) = _
  rw [if_neg (by omega)]
  exact h.2.2.2 i hi hn
theorem Gu.bg {k : Int} {n : Nat} (h : Gu z0 b e k0 js m z) : Gu z0 b e k0 js m (bgM k n z) := h.be.c0 (by decide) (by decide)
theorem Gu.bh {k : Int} {n : Nat} (h : Gu z0 b e k0 js m z) : Gu z0 b e k0 js (tnM z + 1) (bgH k n z) := Gu.th (z := bgM k n z) h.bg
theorem Gu.en {j c : Nat} (h : Gu z0 b e k0 js m z) : Gu z0 b e k0 js m (enM j c z) := h.c0 (by decide) (by decide)
theorem Gu.po (h : Gu z0 b e k0 js m z) : Gu z0 b e k0 js m (poM z) := h.x0 (by decide) (by decide)
theorem Gu.nk (h : Gu z0 b e k0 js m z) : (k0 ≤ (tnM z : Int) ∧ (tnM z : Int) < ((tnM z + 1 : Nat) : Int)) ∨ (tnM z : Int) = js := Or.inl ⟨h.2.1.2, by omega⟩
variable {N : Int → Int} {n : Nat}
theorem Gu.ee (h : Gu z0 b e k0 js m z) : Gu z0 b e k0 js m (eM N n z) := h.xs_ ((ix_lv (N := N) n).1 z) ((ks_lv (N := N) n).1 z)
theorem Gu.ex (h : Gu z0 b e k0 js m z) (q : b ≤ j ∨ j = e) : Gu z0 b e k0 js m (exS N j n z) := h.ee.se q
theorem Gu.cd (h : Gu z0 b e k0 js m z) (q : b ≤ j ∨ j = e) : Gu z0 b e k0 js m (cdM N j n z) := (h.xp.ex q).xp
theorem Gu.bd {k : Nat} (h : Gu z0 b e k0 js m z) (q : b ≤ j ∨ j = e) : Gu z0 b e k0 js m (bdM j k z) := (h.se q).un
theorem Gu.xs (h : Gu z0 b e k0 js m z) : Gu z0 b e k0 js m (xsM N n z) := ((h.bg.ex (Or.inl h.2.2.1)).po).xp.en
theorem Gu.va2 {f v t : Int} (h : Gu z0 b e k0 js m z) (q : b ≤ j ∨ j = e) : Gu z0 b e k0 js m (va2M N j n f v t z) := by
  unfold va2M
  split
  · exact ((h.c0 (by decide) (by decide)).xp.ex q).pu
  · exact h.c0 (by decide) (by decide)
theorem Gu.va1 {f ty : Int} (h : Gu z0 b e k0 js m z) (q : b ≤ j ∨ j = e) : Gu z0 b e k0 js m (va1M N j n f ty z) := (h.dc.se q).va2 q
theorem Gu.va (h : Gu z0 b e k0 js m z) (q : b ≤ j ∨ j = e) : Gu z0 b e k0 js m (vaM N j n z) := by
  unfold vaM
  split
  · exact (h.ac.ty).va1 q
  · exact (h.ty).va1 q
theorem Gu.to (h : Gu z0 b e k0 js m z) : Gu z0 b e k0 js m (toM N n z) := (h.bg.va (Or.inl h.2.2.1)).xp.en
theorem Gu.fx1 (h : Gu z0 b e k0 js m z) : Gu z0 b e k0 js m (fx1M N n z) := (h.be.ex (Or.inl h.2.2.1)).po
end
theorem Gu.fxl {z0 : ZS} {b e : Nat} {k0 js : Int} {m : Nat} {N : Int → Int} {n : Nat} : ∀ (f j : Nat) (z : ZS), Gu z0 b e k0 js m z → (b ≤ j ∨ j = e) → Gu z0 b e k0 js m (fxlM N n f j z) := by
  intro f
  induction f with
  | zero => exact fun _ _ h _ => h
  | succ f ih =>
    intro j z h q
    rw [fxlM]
    split
    · exact ih _ _ ((h.ac.fx1).se q) (Or.inl h.2.2.1)
    · exact h
section
variable {z0 : ZS} {b e : Nat} {k0 js : Int} {m j : Nat} {z : ZS} {N : Int → Int} {n : Nat}
theorem Gu.fx (h : Gu z0 b e k0 js m z) : Gu z0 b e k0 js m (fxM N n z) := Gu.fxl 501 _ _ h.fx1 (Or.inl h.2.2.1)
theorem Gu.cs {jn : Int} (h : Gu z0 b e k0 js m z) (q : (k0 ≤ jn ∧ jn < (m : Int)) ∨ jn = js) : Gu z0 b e k0 js m (csM N jn n z) := by
  unfold csM
  split
  · exact (h.be.ac.ex (Or.inl h.2.2.1)).it (by show ¬ (38 : Int) = 54; decide) (fun _ => q)
  · exact h.be.ac.it (by show ¬ (39 : Int) = 54; decide) (fun _ => q)
theorem th46 {k : Int} (h : k = 64 ∨ k = 65 ∨ k = 66 ∨ k = 67) : ¬ k - 18 = 54 ∧ thO (k - 18) = false := by
  rcases h with rfl | rfl | rfl | rfl <;> decide
theorem Gu.ju {k : Int} (h : Gu z0 b e k0 js m z) (hk : k = 64 ∨ k = 65) : Gu z0 b e k0 js m (juM N k n z) := by
  have q1 : Gu z0 b e k0 js m (accM (bgM k n z)) := h.bg.ac
  have hk := th46 (show k = 64 ∨ k = 65 ∨ k = 66 ∨ k = 67 by omega)
  refine Gu.en (Gu.xp ?_)
  split
  · exact ((q1.se (Or.inl h.2.2.1)).c0 hk.1 hk.2).ac
  · exact q1.c0 hk.1 hk.2
theorem Gu.gi {k : Int} (h : Gu z0 b e k0 js m z) (hk : k = 66 ∨ k = 67) : Gu z0 b e k0 js m (giM N k n z) := by
  have q1 : Gu z0 b e k0 js m (accM (bgM k n z)) := h.bg.ac
  have hk := th46 (show k = 64 ∨ k = 65 ∨ k = 66 ∨ k = 67 by omega)
  refine Gu.en (Gu.xp ?_)
  dsimp only
  split
  · refine Gu.x0 ?_ hk.1 hk.2
    split
    · exact (q1.ex (Or.inl h.2.2.1)).se (Or.inl h.2.2.1)
    · exact q1.ex (Or.inl h.2.2.1)
  · exact (q1.se (Or.inl h.2.2.1)).c0 hk.1 hk.2
abbrev GvS (St : ZS → ZS) : Prop := ∀ z0 b e k0 js m z, Gu z0 b e k0 js m z → Gu z0 b e k0 js m (St z)
abbrev GvR (Rw : Int → Nat → ZS → ZS × Int) : Prop := ∀ (sw : Int) (jn : Nat) (z0 : ZS) (b e : Nat) (k0 js : Int) (m : Nat) (z : ZS), Gu z0 b e k0 js m z → (sw = 1 → (k0 ≤ (jn : Int) ∧ (jn : Int) < (m : Int)) ∨ (jn : Int) = js) → Gu z0 b e k0 js m (Rw sw jn z).1
variable {St : ZS → ZS} {Rw : Int → Nat → ZS → ZS × Int}
theorem Gu.st (h : Gu z0 b e k0 js m z) (s : GvS St) : Gu z0 b e k0 js m (St z) := s _ _ _ _ _ _ _ h
theorem Gu.rw0 (h : Gu z0 b e k0 js m z) (r : GvR Rw) : Gu z0 b e k0 js m (Rw 0 0 z).1 := r 0 0 _ _ _ _ _ _ _ h (fun q => absurd q (by decide))
theorem Gu.blk (h : Gu z0 b e k0 js m z) (r : GvR Rw) (q : b ≤ j ∨ j = e) {o : List (Int × Int)} : Gu z0 b e k0 js m (blkM Rw j o z) := (((Gu.rw0 (z := xpM 2 (arM j z)) h.ar.xp r).se q).un).ve.xp
theorem Gu.bo (h : Gu z0 b e k0 js m z) (r : GvR Rw) {o : List (Int × Int)} : Gu z0 b e k0 js m (boM Rw n o z) := h.be.blk r (Or.inl h.2.2.1)
theorem Gu.up {X : ZS} (h : Gu z0 b e k0 js m z) (q : Gu z0 b e k0 js (tnM z + 1) X) : Gu z0 b e k0 js m X := q.mo (Nat.le_succ_of_le h.2.1.1)
theorem Gu.bl (h : Gu z0 b e k0 js m z) (r : GvR Rw) : Gu z0 b e k0 js m (blM Rw n z) := h.up ((h.bh.blk r (Or.inl h.2.2.1)).en)
theorem Gu.em (h : Gu z0 b e k0 js m z) : Gu z0 b e k0 js m (emM n z) := h.bg.ac.en
theorem Gu.la (h : Gu z0 b e k0 js m z) (s : GvS St) : Gu z0 b e k0 js m (laM n St z) := h.up (((((((h.bh.ck (o := 41) (by decide) h.nk).se (Or.inl h.2.2.1)).ac.xp.ar).st s).bd (Or.inl h.2.2.1)).ck (by decide) h.nk).en)
theorem Gu.if2 (h : Gu z0 b e k0 js m z) (s : GvS St) (q : b ≤ j ∨ j = e) {k c : Nat} (hk : (k0 ≤ (k : Int) ∧ (k : Int) < (m : Int)) ∨ (k : Int) = js) : Gu z0 b e k0 js m (if2M St j k c z) := by
  unfold if2M
  split
  · exact (((((h.ck (by decide) hk).ac.ar).st s).se q).un.ck (by decide) hk).en
  · exact (h.ck (by decide) hk).en
theorem Gu.if (h : Gu z0 b e k0 js m z) (s : GvS St) : Gu z0 b e k0 js m (ifM N n St z) := h.up (((((h.bh.ac.cd (Or.inl h.2.2.1)).xk (o := 23) (by decide) h.nk).ar.st s).bd (Or.inl h.2.2.1)).if2 s (Or.inl h.2.2.1) h.nk)
theorem Gu.wh (h : Gu z0 b e k0 js m z) (s : GvS St) : Gu z0 b e k0 js m (whM N n St z) := h.up (((((((h.bh.ck (o := 26) (by decide) h.nk).ac.cd (Or.inl h.2.2.1)).xk (o := 27) (by decide) h.nk).ar.st s).bd (Or.inl h.2.2.1)).ck (by decide) h.nk).en)
theorem Gu.do (h : Gu z0 b e k0 js m z) (s : GvS St) : Gu z0 b e k0 js m (doM N n St z) := h.up (((((((h.bh.ck (o := 29) (by decide) h.nk).ac.ar.st s).bd (Or.inl h.2.2.1)).xp.ck (o := 30) (by decide) h.nk).cd (Or.inl h.2.2.1)).xp.xk (by decide) h.nk).en)
theorem Gu.fo1 (h : Gu z0 b e k0 js m z) (q : b ≤ j ∨ j = e) : Gu z0 b e k0 js m (fo1M N j n z) := by
  unfold fo1M
  split
  · exact (h.be.va (Or.inl h.2.2.1)).se q
  split
  · exact h
  · exact h.fx.se q
theorem Gu.fo2 (h : Gu z0 b e k0 js m z) (q : b ≤ j ∨ j = e) {k : Nat} (hk : (k0 ≤ (k : Int) ∧ (k : Int) < (m : Int)) ∨ (k : Int) = js) : Gu z0 b e k0 js m (fo2M N j k n z) := by
  unfold fo2M
  split
  · exact h.ck (by decide) hk
  · exact (h.ex q).xk (by decide) hk
theorem Gu.fo3 (h : Gu z0 b e k0 js m z) (q : b ≤ j ∨ j = e) : Gu z0 b e k0 js m (fo3M N j n z) := by
  unfold fo3M
  split
  · exact h
  · exact h.fx.se q
theorem Gu.fob (h : Gu z0 b e k0 js m z) (q : b ≤ j ∨ j = e) {k : Nat} (hk : (k0 ≤ (k : Int) ∧ (k : Int) < (m : Int)) ∨ (k : Int) = js) : Gu z0 b e k0 js m (foB N j k n z) := ((((((h.xp.ar.fo1 q).xp.ck (o := 32) (by decide) hk).fo2 q hk).xp.ck (o := 34) (by decide) hk).fo3 q).xp).ck (by decide) hk
theorem Gu.fo (h : Gu z0 b e k0 js m z) (s : GvS St) : Gu z0 b e k0 js m (foM2 N n St z) := h.up ((((((h.bh.ac.fob (Or.inl h.2.2.1) h.nk).st s).bd (Or.inl h.2.2.1)).ve).ck (by decide) h.nk).en)
theorem Gu.sw (h : Gu z0 b e k0 js m z) (r : GvR Rw) : Gu z0 b e k0 js m (swM N n Rw z) := by
  have a : Gu z0 b e k0 js (tnM z + 1) (swB N n z) := ((h.bh.ac.cd (Or.inl h.2.2.1)).xk (o := 37) (by decide) h.nk).ar.xp
  have c := r 1 (tnM z) _ _ _ _ _ _ _ a (fun _ => h.nk)
  exact h.up ((((c.se (Or.inl h.2.2.1)).un.ve.xp).ck (by decide) h.nk).en)
theorem Gu.tr1 (h : Gu z0 b e k0 js m z) : Gu z0 b e k0 js m (tr1M z) := by
  unfold tr1M
  split
  · exact h
  · exact h.ra
theorem Gu.tr2 (h : Gu z0 b e k0 js m z) (r : GvR Rw) (q : b ≤ j ∨ j = e) {k : Nat} (hk : (k0 ≤ (k : Int) ∧ (k : Int) < (m : Int)) ∨ (k : Int) = js) : Gu z0 b e k0 js m (tr2M N Rw j k n z) := by
  unfold tr2M
  split
  · have b0 : Gu z0 b e k0 js m (caM k z) := h.it (by show ¬ (51 : Int) = 54; decide) (fun _ => hk)
    have b1 : Gu z0 b e k0 js m (xpM 1 (seM j (sLk (zVs (xpM 0 (accM (caM k z))).1).length) (dcM N 3 0 1 (xpM 0 (accM (caM k z)))))) := (b0.ac.xp.dc.se q).xp
    exact (b1.bo r).se q
  · exact h
theorem Gu.tr3 (h : Gu z0 b e k0 js m z) (r : GvR Rw) (q : b ≤ j ∨ j = e) {k : Nat} (hk : (k0 ≤ (k : Int) ∧ (k : Int) < (m : Int)) ∨ (k : Int) = js) : Gu z0 b e k0 js m (tr3M Rw j k n z) := by
  unfold tr3M
  split
  · have b1 : Gu z0 b e k0 js m (accM (coM 52 k 0 (zAt z.1) z)) := h.ck (by decide) hk
    exact (b1.bo r).se q
  · exact h
theorem Gu.tr (h : Gu z0 b e k0 js m z) (r : GvR Rw) : Gu z0 b e k0 js m (trM N n Rw z) := by
  have b1 : Gu z0 b e k0 js (tnM z + 1) (trB n z) := (h.bh.ac.ck (o := 50) (by decide) h.nk).ar
  exact h.up (((((((b1.bo r).se (Or.inl h.2.2.1)).tr1).tr2 r (Or.inl h.2.2.1) h.nk).tr3 r (Or.inl h.2.2.1) h.nk).un.ck (by decide) h.nk).en)
theorem iv_ifc {I : ZS → Prop} {c : Prop} [Decidable c] {x y : ZS} (p : c → I x) (q : ¬ c → I y) : I (if c then x else y) := by
  split
  · exact p (by assumption)
  · exact q (by assumption)
theorem Gu.sm (h : Gu z0 b e k0 js m z) (s : GvS St) (r : GvR Rw) : Gu z0 b e k0 js m (smM N n St Rw z) := iv_ifc (I := Gu z0 b e k0 js m) (fun _ => h.if s) (fun _ => iv_ifc (I := Gu z0 b e k0 js m) (fun _ => h.wh s) (fun _ => iv_ifc (I := Gu z0 b e k0 js m) (fun _ => h.do s) (fun _ => iv_ifc (I := Gu z0 b e k0 js m) (fun _ => h.fo s) (fun _ => iv_ifc (I := Gu z0 b e k0 js m) (fun _ => h.sw r) (fun _ => iv_ifc (I := Gu z0 b e k0 js m) (fun _ => h.tr r) (fun _ => iv_ifc (I := Gu z0 b e k0 js m) (fun _ => h.bl r) (fun _ => iv_ifc (I := Gu z0 b e k0 js m) (fun _ => h.em) (fun _ => iv_ifc (I := Gu z0 b e k0 js m) (fun c => h.ju c) (fun _ => iv_ifc (I := Gu z0 b e k0 js m) (fun c => h.gi c) (fun _ => iv_ifc (I := Gu z0 b e k0 js m) (fun _ => iv_ifc (I := Gu z0 b e k0 js m) (fun _ => h.la s) (fun _ => h.xs)) (fun _ => h.xs)))))))))))
theorem Gu.rp2 (h : Gu z0 b e k0 js m z) (s : GvS St) : Gu z0 b e k0 js m (rp2M N n St z) := by
  unfold rp2M
  split
  · exact h.to
  · exact h.st s
theorem Gu.rp (h : Gu z0 b e k0 js m z) (s : GvS St) {jn : Nat} {sw c : Int} (q : sw = 1 → (k0 ≤ (jn : Int) ∧ (jn : Int) < (m : Int)) ∨ (jn : Int) = js) : Gu z0 b e k0 js m (rpM N n St sw jn c z) := by
  unfold rpM
  split
  · rename_i c1
    split
    · exact h.cs (q c1)
    split
    · exact h.ra.rp2 s
    · exact h.rp2 s
  · exact h.rp2 s
theorem Gu.nx {l : Int} {i : Nat} (h : Gu z0 b e k0 js m z) (q : l < 0 ∨ (b : Int) ≤ l ∨ l = (e : Int)) : Gu z0 b e k0 js m (nxM l i z) := by
  unfold nxM
  split
  · exact h
  · exact h.se (by omega)
end
theorem Gu.rwl {N : Int → Int} {St : ZS → ZS} (s : GvS St) {n jn : Nat} {sw : Int} {z0 : ZS} {b e : Nat} {k0 js : Int} {m : Nat} (q : sw = 1 → (k0 ≤ (jn : Int) ∧ (jn : Int) < (m : Int)) ∨ (jn : Int) = js) : ∀ (k : Nat) (f l : Int) (z : ZS), Gu z0 b e k0 js m z → (l < 0 ∨ (b : Int) ≤ l ∨ l = (e : Int)) → Gu z0 b e k0 js m (rwlM N n St sw jn k f l z).1 := by
  intro k
  induction k with
  | zero => exact fun _ _ _ h _ => h
  | succ k ih =>
    intro f l z h ql
    rw [rwlM]
    split
    · split
      · exact h
      · exact ih _ _ _ ((h.rp s q).nx ql) (Or.inr (Or.inl (by have := h.2.2.1; omega)))
    · exact h
theorem Gu.ls {N : Int → Int} : ∀ n, GvS (lsM N n).1 ∧ GvR (lsM N n).2 := by
  intro n
  induction n with
  | zero => exact ⟨fun _ _ _ _ _ _ _ h => h.ra, fun _ _ _ _ _ _ _ _ _ h _ => h.ra⟩
  | succ n ih =>
    have s : GvS (smM N (n + 1) (lsM N n).1 (lsM N n).2) := fun _ _ _ _ _ _ _ h => h.sm ih.1 ih.2
    exact ⟨s, fun sw jn z0 b e k0 js m z h q => Gu.rwl s q 501 (-1) (-1) z h (Or.inl (by decide))⟩
theorem gv_st {N : Int → Int} {n : Nat} : GvS (stM N n) := (Gu.ls n).1
theorem gv_rw {N : Int → Int} {n : Nat} : GvR (rwM N n) := (Gu.ls n).2
