/-! what judging asks of one exp, whole -/
section
variable {N : Int → Int} {σ : RS} {z : ZS} {Ko Ki : Int} {x : XrZ} {l : List ItZ}
theorem tk_22 (R : RdW N σ z) (hx : (.inl x :: l) <:+ z.2.1) (k : x.1.1 ≤ 2 ∨ x.1.1 = 6 ∨ x.1.1 = 9 ∨ x.1.1 = 10 ∨ x.1.1 = 14) {Y : RS} {c : Int32} (hY : JfR (sI σ 68 1) Y) (hl : c.toInt = (l.length : Int)) : (aI Y 22 c.toNatClampNeg).toInt = x.2.1.1 := by
  have cn : c.toNatClampNeg = l.length := nT_x hl
  have a : aI Y 22 = aI σ 22 := hY.2.2.1 22 rfl
  rw [cn, a]
  have cc : ccZ σ l.length x := cc_of R hx
  exact cc.2.2.1 k
theorem xtx_of (R : RdW N σ z) (V : V4R σ) (W : WsT N σ z.1) (O : WoK N σ Ko Ki) (A : AkI z) (P : RpI z) (hn : ∀ k, k < nT (gI σ 36) → m1T (msM N Ko Ki z.1) k 12) (hx : (.inl x :: l) <:+ z.2.1) (h0 : 0 ≤ x.1.1) (k : x.1.1 ≤ 14) : XtxR (sI σ 68 1) (CxM N z.1 (msM N Ko Ki z.1)) (t0T N (xgZ z.2.1)) l x := by
  have m := hx.subset List.mem_cons_self
  have p := P.1 x m
  refine ⟨cc_of R hx, ⟨h0, k⟩, fun q Y c hY hl => ?_, fun q Y c hY hl h89 => ?_, fun q => ?_, fun q => vt_1 R W hx p q, fun q => ⟨fun Y c hY hl => ?_, nd_of R hn⟩, ⟨p.1.1, p.1.2.1, p.1.2.2, p.2.1⟩, p.2.2.1⟩
  · exact lit_of (C := CxM N z.1 (msM N Ko Ki z.1)) R W rfl hx p q hY hl
  · exact fd_ok R hx (by unfold NvI; omega) hY (tk_22 R hx (by omega) hY hl) h89
  · exact t0_co (C := CxM N z.1 (msM N Ko Ki z.1)) hx (by omega)
  · have nm : NmI x := by unfold NmI; omega
    have c0 := tkl_in m nm
    have rg := (A.1 x.2.1.1).2 (by unfold ckZ; omega)
    have e := msr_of R A V O hY (tk_22 R hx (by omega) hY hl) rg.1 rg.2 (A.2.1 _ m nm)
    show MsR Y (aI Y 22 c.toNatClampNeg) (N x.1.2.2.1) (msM N Ko Ki z.1)
    rw [(p.2.2.2.1 q).1]
    exact e
end
