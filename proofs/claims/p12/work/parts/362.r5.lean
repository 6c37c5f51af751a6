/-! links of S's stay below how many there are, as long as there is no FAULT -/
def lkW (n : Int) (x : SrZ) : Prop := x.2.2.1 < n ∧ x.2.2.2.1 < n ∧ x.2.2.2.2.1 < n ∧ x.2.2.2.2.2.1 < n
def Wx (n : Nat) (z : ZS) : Prop := Uw n z ∧ (zFt z.1 = 0 → ∀ j, j < snM z → lkW (snM z) (reS z j))
theorem rai_b {c : Int} {s : SpC} (h : zFt (raiY c s) = 0) : zFt s = 0 := by
  unfold raiY at h
  split at h
  · assumption
  · exact h
theorem xp_b {c : Int} {s : SpC} (h : zFt (xpY c s) = 0) : zFt s = 0 := by
  rw [(xp_nz h).2] at h
  exact (acc_n h).2.1
theorem typ_b {s : SpC} (h : zFt (typY s) = 0) : zFt s = 0 := by
  unfold typY at h
  split at h
  · exact (acc_n h).2.1
  · exact rai_b h
section
variable {n j : Nat} {z : ZS}
theorem Wx.mo {m : Nat} (h : Wx n z) (q : m ≤ n) : Wx m z := ⟨h.1.mo q, h.2⟩
theorem Wx.ac (h : Wx n z) : Wx n (accM z) := ⟨h.1, fun q => h.2 (acc_n q).2.1⟩
theorem Wx.ra {c : Int} (h : Wx n z) : Wx n (raiM c z) := ⟨h.1, fun q => h.2 (rai_b q)⟩
theorem Wx.xp {c : Int} (h : Wx n z) : Wx n (xpM c z) := ⟨h.1, fun q => h.2 (xp_b q)⟩
theorem Wx.ty (h : Wx n z) : Wx n (typM z) := ⟨h.1, fun q => h.2 (typ_b q)⟩
theorem Wx.th (h : Wx n z) : Wx n (thM z) := h
theorem Wx.ve {t : Int} {o : List (Int × Int)} (h : Wx n z) : Wx n (veM t o z) := h
theorem Wx.dc {N : Int → Int} {ty f g : Int} (h : Wx n z) : Wx n (dcM N ty f g z) := ⟨h.1, fun q => h.2 (dcl_nz q).2.1⟩
theorem Wx.co {o a b t : Int} (h : Wx n z) : Wx n (coM o a b t z) := h
theorem Wx.cx {o a b t : Int} (h : Wx n z) : Wx n (cxM o a b t z) := h
theorem Wx.pu {x : XrZ} (h : Wx n z) : Wx n (puM x z) := h
theorem Wx.en {j c : Nat} (h : Wx n z) : Wx n (enM j c z) := h
theorem Wx.po (h : Wx n z) : Wx n (poM z) := h
theorem Wx.se {f : SrZ → SrZ} (h : Wx n z) (q : ∀ x, lkU j x → lkU j (f x)) (p : zFt z.1 = 0 → ∀ x, lkW (snM z) x → lkW (snM z) (f x)) : Wx n (seM j f z) := by
  refine ⟨h.1.se q, fun e k hk => ?_⟩
  show lkW (snM z) (if k = j then f (z.2.2.1.2 j) else z.2.2.1.2 k)
  split
  · rename_i e9
    exact p e _ (h.2 e j (e9 ▸ hk))
  · exact h.2 e k hk
theorem Wx.sx {v : Int} (h : Wx n z) : Wx n (seM j (sEx v) z) := h.se (fun _ q => q) (fun _ _ q => q)
theorem Wx.sl {v : Int} (h : Wx n z) : Wx n (seM j (sLk v) z) := h.se (fun _ q => q) (fun _ _ q => q)
theorem Wx.sb {v : Int} (h : Wx n z) (q : v < 0 ∨ (j : Int) < v) (w : zFt z.1 = 0 → v < (snM z : Int)) : Wx n (seM j (sBd v) z) := h.se (fun _ p => ⟨p.1, p.2.1, q, p.2.2.2⟩) (fun e _ p => ⟨p.1, w e, p.2.2⟩)
theorem Wx.sn {v : Int} (h : Wx n z) (q : v < 0 ∨ (j : Int) < v) (w : zFt z.1 = 0 → v < (snM z : Int)) : Wx n (seM j (sNx v) z) := h.se (fun _ p => ⟨p.1, q, p.2.2⟩) (fun e _ p => ⟨w e, p.2⟩)
theorem Wx.so {v : Int} (h : Wx n z) (q : v < 0 ∨ (j : Int) < v) (w : zFt z.1 = 0 → v < (snM z : Int)) : Wx n (seM j (sOt v) z) := h.se (fun _ p => ⟨p.1, p.2.1, p.2.2.1, q, p.2.2.2.2⟩) (fun e _ p => ⟨p.1, p.2.1, w e, p.2.2.2⟩)
theorem Wx.sg {v : Int} (h : Wx n z) (q : v < 0 ∨ (j : Int) < v) (w : zFt z.1 = 0 → v < (snM z : Int)) : Wx n (seM j (sLs v) z) := h.se (fun _ p => ⟨p.1, p.2.1, p.2.2.1, p.2.2.2.1, q, p.2.2.2.2.2⟩) (fun e _ p => ⟨p.1, p.2.1, p.2.2.1, w e⟩)
theorem Wx.ar {i : Int} (h : Wx n z) (q : i < (n : Int)) : Wx n (arM i z) := ⟨h.1.ar q, h.2⟩
theorem Wx.un (h : Wx n z) (q : j < n) : Wx n (unM j z) := ⟨h.1.un q, h.2⟩
theorem Wx.be {k l : Int} (h : Wx n z) : Wx (snM z + 1) (beM k l z) := by
  refine ⟨h.1.be, fun e i hi => ?_⟩
  show lkW ((snM z + 1 : Nat) : Int) (if i = snM z then _ else z.2.2.1.2 i)
  split
  · have m1 : (-1 : Int) < ((snM z + 1 : Nat) : Int) := by omega
    exact ⟨m1, m1, m1, m1⟩
  · have : i < snM z + 1 := hi
    have a := h.2 e i (by omega)
    have u : ∀ x : Int, x < (snM z : Int) → x < ((snM z + 1 : Nat) : Int) := fun x q => by omega
    exact ⟨u _ a.1, u _ a.2.1, u _ a.2.2.1, u _ a.2.2.2⟩
theorem Wx.bg {k : Int} {m : Nat} (h : Wx n z) : Wx (snM z + 1) (bgM k m z) := h.be
theorem Wx.bh {k : Int} {m : Nat} (h : Wx n z) : Wx (snM z + 1) (bgH k m z) := h.be
theorem Wx.dn {f : ZS} (h : Wx n z) (q : Wx (snM z + 1) f) : Wx n f := q.mo (Nat.le_succ_of_le h.1.1)
variable {N : Int → Int}
end
