/-! the reference's flow: a whole S, rows of S's -/
section
variable {σ τ Y W : RS} {C : CxT} {z : ZS} {T : TbT} {l l' m : List ItZ} {k j lo mid hi b : Nat} {M : Int32} {A : Prop} {u v : Int64} {N : Int → Int} {ms : MfT} {lv a t e : Int} {r : XrZ} {St : SsT} {Rw : RsT}
/-- first token, kind of an S -/
theorem in_hd {Mi : Int} {q : Ps} (h : InD N Mi St Rw z lv a j k t l q) : fiS z j = t ∧ SkD z j := by
  unfold SkD
  rcases h with ⟨m, r, hx, R, rfl⟩ | ⟨m, ⟨v, t, _, hv⟩, rfl⟩ | ⟨R, rfl⟩ | ⟨L, hr, R⟩ | ⟨q2, hs, R, rfl⟩ | ⟨m, r, q2, hx, hs, ⟨R, rfl⟩ | ⟨t2, q3, hs2, R, rfl⟩⟩ | ⟨m, r, q2, hx, hs, R, rfl⟩ | ⟨m, r, q2, hs, hx, R, rfl⟩ | ⟨q2, q3, q4, m2, o, g, x, f1, f2, ⟨L, _, f3⟩, hs, R, rfl⟩ | ⟨m, r, L, q2, hx, hr, _, R, rfl⟩ | ⟨q2, q3, q4, o, g, v, B1, B2, B3, _, R, rfl⟩ | ⟨kd, lk, t2, hk, _, R, rfl⟩ | (⟨R, rfl⟩ | ⟨m, r, hx, ⟨R, rfl⟩ | ⟨R, rfl⟩⟩)
  · exact ⟨R.fi, by have := R.kj; omega⟩
  · rcases hv with ⟨R, rfl⟩ | ⟨m0, r, x, hx, R, _, rfl⟩
    · exact ⟨R.fi, by have := R.kj; omega⟩
    · exact ⟨R.fi, by have := R.kj; omega⟩
  all_goals exact ⟨R.fi, by have := R.kj; omega⟩
/-- an S that is never gone to -/
theorem go_dead {y : Int × Int × Int × Int × Int} (E : FxE σ C z T) (hs : (.inr y :: l) <:+ z.2.1) (hr : RnR τ σ (plI l) M) (hy : y.1 = 20) (h : gI σ 92 = 0) : BdF τ := by
  have i := ic_at E hs
  obtain ⟨X, c1, m1, st, r2⟩ := hr.st (pl_lt E hs).1
  rcases st with ⟨q, _⟩ | ⟨_, u, p, hu, e1, g⟩
  · have q := Int32.le_iff_toInt_le.mp q
    rw [i.1, hy] at q
    exact absurd q (by decide)
  · have u1 : ¬ u = 0 := hu.mpr (Or.inr (Or.inl ⟨by rw [i.1, hy], h⟩))
    refine r2.bd (Or.inl ?_)
    have e := fk_S (σ := laS σ u p) (c := plI l)
    rcases g with ⟨_, _, rfl⟩ | ⟨_, _, rfl⟩
    · rw [e.1]; exact u1
    · show ¬ gI (fsS (laS σ u p) (plI l)).1 112 = 0
      rw [e.1]; exact u1
/-- an S begins -/
theorem go_20 {a b e : Int} (E : FxE σ C z T) (hs : (.inr (20, a, b, t, e) :: l) <:+ z.2.1) (hr : RnR τ σ (plI l) M) (hb : ¬ BdF σ) (h : Bw σ A u v) (ha : A) (h0 : aI σ 109 t.toNat = 0) (t0 : 0 ≤ t) : ∃ Y, (RnR τ Y (plI (.inr (20, a, b, t, e) :: l)) M ∧ ¬ BdF Y) ∧ Bw Y A u v ∧ LwT σ Y ∧ aI Y 109 = upd (aI σ 109) t.toNat 1 ∧ aL Y 110 = vp_updL (aL σ 110) t.toNat (u &&& v) ∧ aI Y 111 = aI σ 111 := by
  have i := ic_at E hs
  obtain ⟨X, c1, m1, st, r2⟩ := hr.st (pl_lt E hs).1
  rcases st with ⟨q, _⟩ | ⟨_, w, p, hu, e1, g⟩
  · have q := Int32.le_iff_toInt_le.mp q
    rw [i.1] at q
    exact absurd q (by show ¬ (20 : Int) ≤ 18; decide)
  · have w0 : w = 0 := by
      by_cases c : w = 0
      · exact c
      · rcases hu.mp c with q | q
        · exact absurd (Or.inl q) hb
        · rcases q with q | q
          · exact absurd q.2 (h.1.1.mpr ha)
          · rw [i.1] at q
            exact absurd q.1 (by show ¬ (20 : Int) = 54; decide)
    subst w0
    have tn : (aI (laS σ 0 p) 22 (plI l).toNatClampNeg).toNatClampNeg = t.toNat := nT_x (i.2.2.2.trans (by show t = _; omega))
    have es : fsS (laS σ 0 p) (plI l) = fs_20 (laS σ 0 p) (plI l) := fs_e20 i.1
    obtain ⟨B, L, R, e2⟩ := fw_20 (σ := laS σ 0 p) (c := plI l) h.la ha tn h0
    have e19 : aI (fsS (laS σ 0 p) (plI l)).1 19 = aI σ 19 := (ff_S (σ := laS σ 0 p) (c := plI l)).2.2.1 19 rfl
    rw [e19, e1, es, e2, pl_s E hs] at g
    rcases g with ⟨_, e3, e4⟩ | ⟨q, _⟩
    · rw [e1, es, e2, pl_s E hs, e3, e4] at r2
      refine ⟨_, ⟨r2, fun q => ?_⟩, B, ⟨FfR.rf.la.tr L.1, L.2.1, Jq.la.tr L.2.2⟩, R⟩
      have k := fk_S (σ := laS σ 0 p) (c := plI l)
      rw [es] at k
      rcases q with q | q
      · rw [k.1] at q
        exact q rfl
      · rw [k.2] at q
        exact hb (Or.inr q)
    · exact absurd q (no_54 E hs (fun y e => by cases e; show ¬ (20 : Int) = 54; decide))
/-- an S ends -/
theorem go_45 {a b e : Int} (E : FxE σ C z T) (hs : (.inr (45, a, b, t, e) :: l) <:+ z.2.1) (hr : RnR τ σ (plI l) M) (hb : ¬ BdF σ) (h : Bw σ A u v) (h0 : 0 ≤ a) (t0 : 0 ≤ t) : ∃ Y, (RnR τ Y (plI (.inr (45, a, b, t, e) :: l)) M ∧ ¬ BdF Y) ∧ Bw Y A u v ∧ LwT σ Y ∧ aI Y 109 = aI σ 109 ∧ aL Y 110 = aL σ 110 ∧ aI Y 111 = upd (aI σ 111) t.toNat (gI σ 92) := by
  obtain ⟨p, nb, i, g, g2⟩ := go E hs hr hb (by show 19 ≤ (45 : Int) ∧ ¬ (45 : Int) = 20 ∧ ¬ (45 : Int) = 54; decide)
  have tn : (aI (laS σ 0 p) 22 (plI l).toNatClampNeg).toNatClampNeg = t.toNat := nT_x (i.2.2.2.trans (by show t = _; omega))
  rw [fs_e45 i.1] at nb g g2
  obtain ⟨B, L, R, e2⟩ := fw_45 (σ := laS σ 0 p) (c := plI l) h.la tn (leJ (by rw [i.2.1]; exact h0))
  exact ⟨_, ⟨g e2, nb⟩, B, ⟨FfR.rf.la.tr L.1, L.2.1, Jq.la.tr L.2.2⟩, R⟩
/-- a whole S -/
theorem fw_S {p q1 : Ps} (H : GxF N C z T ms) (hI : FwI τ C N z T p.1 q1.1 p.2.1 (cIy 20 0 0 t :: p.2.2) q1.2.2) (ht : fiS z p.1 = t ∧ SkD z p.1) (t0 : 0 ≤ t) (hz : q1.1 ≤ snM z) (hq : (cIy 45 p.2.2.length 0 t :: q1.2.2) <:+ z.2.1) (hsf : (cIy 20 0 0 t :: p.2.2) <:+ q1.2.2) (lt : p.1 < q1.1) (hJ : ∀ (f : Nat) (mm : Int64) (R : ReG), 2 * (q1.1 - p.1) ≤ f + 1 → a < (p.1 : Int) → (dF N z T f).2.2 p.1 true mm = some R → JtS z a p.1 R.2.2.1) : ∀ (f : Nat) (M : Int32) (σ : RS) (al : Bool) (mm : Int64), 2 * (q1.1 - p.1) ≤ f + 1 → a < (p.1 : Int) → BgF τ C z T M p.1 p.2.2 σ → Bw σ (al = true) mm mm → (BdF τ ∧ (dF N z T f).2.2 p.1 al mm = none) ∨ ∃ R Y, (dF N z T f).2.2 p.1 al mm = some R ∧ OutF τ C z T M p.1 q1.1 p.2.1 p.2.2 (cIy 45 p.2.2.length 0 t :: q1.2.2) σ R Y := by
  intro f M σ al mm hf ha hB hw
  have hq1 : q1.2.2 <:+ z.2.1 := (List.suffix_cons _ _).trans hq
  obtain ⟨f, rfl⟩ : ∃ k, f = k + 1 := ⟨f - 1, by omega⟩
  have A0 := hB.1
  cases al with
  | false =>
    refine Or.inl ⟨go_dead A0.2.1.1 (hsf.trans hq1) A0.1.1 rfl ?_, by rw [d_st, d_f]⟩
    by_cases c : gI σ 92 = 0
    · exact c
    · exact absurd (hw.1.1.mp c) (by decide)
  | true =>
    have hd : (dF N z T (f + 1)).2.2 p.1 true mm = (inD' (dF N z T f) N z T p.1 mm).map (fun r => (r.1, r.2.1, r.2.2.1, (p.1, mm, r.1) :: r.2.2.2)) := by rw [d_st, d_t]
    have z1 : p.1 < snM z := by omega
    obtain ⟨Y1, r1, w1, ⟨L1, L2, L3⟩, R1, R2, R3⟩ := go_20 A0.2.1.1 (hsf.trans hq1) A0.1.1 A0.1.2 hw rfl (by rw [← ht.1]; exact hB.2.2.1 p.1 (Nat.le_refl _) z1 ht.2) t0
    have A1 : AtF τ C z T M (cIy 20 0 0 t :: p.2.2) Y1 := A0.mv r1 L1 L3.1 (Nat.le_succ _)
    have ne : ∀ i, p.1 + 1 ≤ i → i < snM z → SkD z i → ¬ (fiS z i).toNat = t.toNat := fun i c1 c2 c3 c4 => by
      have := H.2.2.2.1 i p.1 c2 z1 c3 ht.2 (by rw [ht.1]; exact c4)
      omega
    have B1 : BgF τ C z T M (p.1 + 1) (cIy 20 0 0 t :: p.2.2) Y1 := ⟨A1, hd_r, fun i c1 c2 c3 => by
      rw [R1, upd_ne (ne i c1 c2 c3)]
      exact hB.2.2.1 i (by omega) c2 c3, by
      rw [L3.jn]
      exact hB.2.2.2.mo (Nat.le_succ _) (by rw [List.length_cons]; omega)⟩
    rw [hd]
    have O1 : OjR z p.1 ((cIy 20 0 0 t :: p.2.2).length : Int) (jnS Y1) := by
      rw [L3.jn]
      exact hB.2.2.2.mo (Nat.le_refl _) (by rw [List.length_cons]; omega)
    rcases hI f M Y1 mm (by omega) B1 O1 (w1.cg (iff_of_true rfl trivial)) with ⟨b1, b2⟩ | ⟨R, Y2, e2, A2, w2, J2, F2, G2⟩
    · exact Or.inl ⟨b1, by rw [b2]; rfl⟩
    · obtain ⟨Y3, r3, w3, ⟨M1, M2, M3⟩, S1, S2, S3⟩ := go_45 A2.2.1.1 hq A2.1.1 A2.1.2 w2 (by omega) t0
      have A3 : AtF τ C z T M (cIy 45 p.2.2.length 0 t :: q1.2.2) Y3 := A2.mv r3 M1 M3.1 (Nat.le_succ _)
      have len := hsf.length_le
      rw [List.length_cons] at len
      have e3 : (dF N z T (f + 1)).2.2 p.1 true mm = some (R.1, R.2.1, R.2.2.1, (p.1, mm, R.1) :: R.2.2.2) := by rw [hd, e2]; rfl
      have J3 : JsK z (p.2.2.length : Int) ((cIy 45 p.2.2.length 0 t :: q1.2.2).length : Int) (jnS σ) Y3 R.2.2.1 := by
        rw [L3.jn] at J2
        exact (J2.q M3.jn).wd (by rw [List.length_cons]; omega) (by rw [List.length_cons]; omega)
      have LG : LgF z p.1 q1.1 σ Y3 ((p.1, mm, R.1) :: R.2.2.2) := by
        refine ⟨fun x hx => ?_, fun x hx => ?_⟩
        · have n : ¬ x = t.toNat := fun e => hx p.1 (Nat.le_refl _) lt ht.2 (by rw [ht.1, e])
          obtain ⟨g1, g2, g3⟩ := G2.1 x (fun i c1 c2 c3 => hx i (by omega) c2 c3)
          refine ⟨?_, ?_, ?_⟩
          · rw [S1, g1, R1, upd_ne n]
          · rw [S2, g2, R2]
            exact if_neg n
          · rw [S3, upd_ne n, g3, R3]
        · rcases List.mem_cons.mp hx with rfl | hx
          · obtain ⟨g1, g2, g3⟩ := G2.1 t.toNat (fun i c1 c2 c3 => ne i c1 (by omega) c3)
            refine ⟨⟨Nat.le_refl _, lt, ht.2⟩, ?_, ?_, ?_⟩
            · show ¬ aI Y3 109 (fiS z p.1).toNat = 0
              rw [ht.1, S1, g1, R1, upd_eq]
              decide
            · show aL Y3 110 (fiS z p.1).toNat = mm
              rw [ht.1, S2, g2, R2]
              exact (if_pos rfl).trans an_id
            · show ¬ aI Y3 111 (fiS z p.1).toNat = 0 ↔ R.1 = true
              rw [ht.1, S3, upd_eq]
              exact w2.1.1
          · obtain ⟨⟨a1, a2, a3⟩, a4, a5, a6⟩ := G2.2 x hx
            have n := ne x.1 a1 (by omega) a3
            rw [S1, S2, S3, upd_ne n]
            exact ⟨⟨by omega, a2, a3⟩, a4, a5, a6⟩
      have j3 : JtS z a p.1 R.2.2.1 := hJ (f + 1) mm (R.1, R.2.1, R.2.2.1, (p.1, mm, R.1) :: R.2.2.2) hf ha e3
      obtain ⟨N1, N2⟩ := hB.nx H.2.2.2.1 H.2.2.2.2 A3 hd_r (by rw [List.length_cons]; omega) lt hz ha J3 j3 LG
      refine Or.inr ⟨(R.1, R.2.1, R.2.2.1, (p.1, mm, R.1) :: R.2.2.2), Y3, by rw [e2]; rfl, N1, w3, N2, ⟨(L1.tr F2.1).tr M1, fun i hi => ?_⟩, LG⟩
      have f2 := F2.2 i hi
      unfold RowT at f2 ⊢
      rw [M2.1, M2.2.1, M2.2.2.1, M2.2.2.2.1, M2.2.2.2.2, ← L2.1, ← L2.2.1, ← L2.2.2.1, ← L2.2.2.2.1, ← L2.2.2.2.2]
      exact f2
end
