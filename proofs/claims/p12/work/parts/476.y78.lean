/-! what the reference's flow asks of what is read and judged -/
section
variable {N : Int → Int} {C : CxT} {z : ZS} {T : TbT}
/-- the assignment that a MARK of taking belongs to -/
theorem kn_9 (H : ZjD C z T) {y : XrZ} (hy : .inl y ∈ z.2.1) (k : y.1.1 = 9) : knT C y.2.1.2.1 := by
  obtain ⟨t, m, e⟩ := List.append_of_mem hy
  have hs : (Sum.inl y :: m) <:+ z.2.1 := ⟨t, e.symm⟩
  obtain ⟨U, u1, _⟩ := jd_x H.1 (i := xcZ m) (xc_sf hs)
  have ye : xth z (xcZ m) = y := xg_at hs
  rw [ye, ex_9 k] at u1
  unfold x9T at u1
  by_cases c : knT C y.2.1.2.1
  · exact c
  · rw [if_neg (fun q => c q.1.1)] at u1
    cases u1
theorem pu_all (H : ZjD C z T) (I : IvI z) (K : KvP N z) (S : SxS z) : PuE C z T := fun x l hx => by
  have hm : .inl x ∈ z.2.1 := hx.subset List.mem_cons_self
  refine ⟨fun k => pu_2 H I K hx k, fun k => ⟨?_, (I.2.1 x hm (by unfold NvI; omega)).1⟩, fun k => ?_⟩
  · obtain ⟨y, y1, y2, _, y4⟩ := I.1 x hm k
    rw [← y4]
    exact (kn_9 H y1 y2).1
  · have xe : xth z (xcZ l) = x := xg_at hx
    have r := (S (xcZ l) (xc_sf hx)).2
    rw [xe] at r
    exact r k
theorem me_14 {b kd : Nat → Int} (I : IvI z) (A : AkI z) {x : XrZ} (hx : .inl x ∈ z.2.1) (k : x.1.1 = 14) : meZ b kd T z.2.1 x.2.1.1.toNat = x.2.1.2.1 := by
  obtain ⟨y, y1, y2, y3, y4⟩ := I.1 x hx k
  have y0 := (I.2.1 y y1 (by unfold NvI; omega)).1
  have r := me_it (b := b) (kd := kd) (T := T) (L := z.2.1) (fun q => by
    have := (A.1 q).1
    unfold ckZ at this
    omega) y1 (by omega) y0
  rw [← y3, ← y4]
  exact r
end
section
variable {N : Int → Int} {σ σ1 : RS} {z : ZS} {T : TbT} {Nv : Int → Int} {ms : MfT} {b kd : Nat → Int}
theorem ff_fl0 : FfR σ (fl0 σ) := FfR.tt (FfR.I rfl (FfR.I rfl (FfR.I rfl (FfR.A rfl (FfR.I rfl (FfR.I rfl FfR.rf))))))
theorem en_of (R : RdW N σ z) (A : AkI z) (I : IvI z) (h4 : z.2.1.length ≤ 4000) (J : JR b kd (sI σ 68 1) σ1 (CxM Nv z.1 ms) (tnM z) z.2.1 T []) : EnF (fl0 σ1) (CxM Nv z.1 ms) z T := by
  have F : FfR σ1 (fl0 σ1) := ff_fl0
  obtain ⟨⟨jf, _, _⟩, _, ⟨_, jt⟩, jv, jh, _, _, jn⟩ := J
  obtain ⟨⟨pc1, pc2⟩, _, _, _, _, ⟨kt1, kt2, kt3⟩, g18⟩ := R.1
  have aa : ∀ k, flA k = false → bJ k = false → aI (fl0 σ1) k = aI σ k := fun k h1 h2 => (F.2.2.1 k h1).trans (jf.2.2.1 k h2)
  have e18 : gI (fl0 σ1) 18 = gI σ 18 := (F.1 18 rfl).trans (jf.1 18 (by decide) (by decide) (by decide) (by decide) (by decide) (by decide))
  have fA := F.2.2.1
  have fM := F.2.2.2
  refine ⟨⟨⟨pc1.fr (fun k h1 h2 j _ => ?_), ?_, h4⟩, jt.fr (fun _ _ => rfl) (fun p _ => ⟨?_, ?_, ?_, ?_, ?_⟩) (fun d _ => ⟨?_, ?_, ?_, ?_, ?_⟩), ⟨jv.t (fA 86 rfl) (fM 87 rfl) rfl, fun v hv => ?_⟩, fun x l hx k => ?_⟩, fun a a1 a2 k hk => ?_, fun k hk => ?_, fun y l hy ht => ?_⟩
  · have h : k = 19 ∨ k = 20 ∨ k = 21 ∨ k = 22 ∨ k = 23 ∨ k = 24 := by omega
    rcases h with rfl | rfl | rfl | rfl | rfl | rfl
    · rw [aa 19 rfl rfl]
    · rw [aa 20 rfl rfl]
    · rw [aa 21 rfl rfl]
    · rw [aa 22 rfl rfl]
    · rw [aa 23 rfl rfl]
    · rw [aa 24 rfl rfl]
  · rw [e18, (nt_pos g18).1, pc2]
  · rw [fA 75 rfl]
  · rw [fA 76 rfl]
  · rw [fA 77 rfl]
  · rw [fA 78 rfl]
  · rw [fM 79 rfl]
  · rw [fA 81 rfl]
  · rw [fA 82 rfl]
  · rw [fA 83 rfl]
  · rw [fA 84 rfl]
  · rw [fM 85 rfl]
  · have r := (R.vt (Nv := Nv) (ms := ms) jf (v := (v : Int)) (Int.natCast_nonneg _) (by
      have hv : v < vnW z := hv
      omega)).2.2.1
    rw [fA 45 rfl]
    exact r
  · have hm : .inl x ∈ z.2.1 := hx.subset List.mem_cons_self
    rw [fA 80 rfl, jn, me_14 I A hm k]
  · have h : a = 52 ∨ a = 53 ∨ a = 54 ∨ a = 55 ∨ a = 56 ∨ a = 57 ∨ a = 58 := by omega
    have r := kt1 a a1 (by omega) k hk
    rcases h with rfl | rfl | rfl | rfl | rfl | rfl | rfl
    · rw [aa 52 rfl rfl]; exact r
    · rw [aa 53 rfl rfl]; exact r
    · rw [aa 54 rfl rfl]; exact r
    · rw [aa 55 rfl rfl]; exact r
    · rw [aa 56 rfl rfl]; exact r
    · rw [aa 57 rfl rfl]; exact r
    · rw [aa 58 rfl rfl]; exact r
  · rw [fA 59 rfl]
    exact (jh k hk).2
  · obtain ⟨t1, t2, _, t4, _, t6⟩ := kt3 l.length y (itN_at hy) ht
    rw [aa 51 rfl rfl, aa 61 rfl rfl]
    exact ⟨⟨t1, t2⟩, t4, t6⟩
end
