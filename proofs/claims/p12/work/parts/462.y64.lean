/-! the reference's flow: try -/
section
variable {σ τ Y W : RS} {C : CxT} {z : ZS} {T : TbT} {l l' l'' m : List ItZ} {k j lo mid hi b : Nat} {M : Int32} {A : Prop} {u v : Int64} {N : Int → Int} {ms : MfT} {lv a t e : Int} {r : XrZ} {St : SsT} {Rw : RsT} {R S : ReG}
/-- a block of try -/
theorem bk_go (hR : FwRo τ C N z T Rw) {p q : Ps} (B : BkD Rw z lv a p q) (hz : q.1 ≤ snM z) (hq : q.2.2 <:+ z.2.1) {f : Nat} (hf : 2 * (q.1 - (p.1 + 1)) ≤ f) {mm : Int64} (hB : BgF τ C z T M (p.1 + 1) p.2.2 σ) (hw : Bw σ True mm mm) : (BdF τ ∧ bkD' (dF N z T f) z (p.1 : Int) mm = none) ∨ ∃ R Y, bkD' (dF N z T f) z (p.1 : Int) mm = some R ∧ OutF τ C z T M (p.1 + 1) q.1 p.2.1 p.2.2 q.2.2 σ R Y := by
  obtain ⟨L, t, hr, D⟩ := B
  unfold bkD'
  rw [if_neg (by omega), Int.toNat_natCast, D.bj]
  exact hR (p.1 : Int) L _ _ hr hz hq f M σ true mm hf (by show (p.1 : Int) < ((p.1 + 1 : Nat) : Int); omega) hB (hw.cg (iff_of_true trivial rfl))
/-- ahead of a finally -/
def TyS (τ : RS) (C : CxT) (z : ZS) (T : TbT) (M : Int32) (j k : Nat) (q2 : Ps) (l l5 : List ItZ) (mm : Int64) (c : ReG) (σ Y : RS) : Prop := (BgF τ C z T M q2.1 l5 Y ∧ Bw Y True mm mm) ∧ (aL Y 96 k = c.2.1 ∧ (¬ aI Y 95 k = 0 ↔ c.1 = true)) ∧ JsH z (l.length : Int) (q2.2.2.length : Int) (jnS σ) Y c.2.2.1 ∧ FzT k σ Y ∧ LgF z (j + 1) q2.1 σ Y c.2.2.2
theorem ty_fin (H : GxF N C z T ms) (hR : FwRo τ C N z T Rw) {q2 q3 : Ps} {mm : Int64} {c : ReG} {b3 t3 b4 t4 b0 t0 : Int} {f : Nat} (B3 : BkD Rw z lv a (q2.1, q2.2.1, cIy 52 k b3 t3 :: q2.2.2) q3) (hm : (cIy 53 k b4 t4 :: q3.2.2) <:+ z.2.1) (h50 : (cIy 50 k b0 t0 :: l) <:+ z.2.1) (sf : (cIy 52 k b3 t3 :: q2.2.2) <:+ q3.2.2) (hz : q3.1 ≤ snM z) (hf : 2 * (q3.1 - (q2.1 + 1)) ≤ f) (h58 : pqZ 58 (k : Int) z.2.1 = (q2.2.2.length : Int)) (hO : OjR z j (l.length : Int) (jnS σ)) (hle : j + 1 ≤ q2.1 ∧ q2.1 + 1 ≤ q3.1 ∧ k + 1 ≤ q2.2.1 ∧ l.length ≤ q2.2.2.length) (h : TyS τ C z T M j k q2 l (cIy 52 k b3 t3 :: q2.2.2) mm c σ Y) : (BdF τ ∧ bkD' (dF N z T f) z (q2.1 : Int) mm = none) ∨ ∃ d W, bkD' (dF N z T f) z (q2.1 : Int) mm = some d ∧ OutI τ C z T M (j + 1) q3.1 k l (cIy 53 k b4 t4 :: q3.2.2) σ (c.1 && d.1, c.2.1 ||| d.2.1, c.2.2.1.map (fnJ d.1 d.2.1) ++ d.2.2.1, c.2.2.2 ++ d.2.2.2) W := by
  obtain ⟨⟨hB, hw⟩, ⟨s96, s95⟩, hJ, hF, hG⟩ := h
  have hq : q3.2.2 <:+ z.2.1 := (List.suffix_cons _ _).trans hm
  have n1 := sf.length_le
  rw [List.length_cons] at n1
  have hB' : BgF τ C z T M (q2.1 + 1) (cIy 52 k b3 t3 :: q2.2.2) Y := hB.mv (k := k) hB.1 NxT.rf hd_r (Nat.le_refl _) (Nat.le_succ _)
  rcases bk_go hR B3 hz hq (f := f) hf hB' hw with ⟨c1, c2⟩ | ⟨d, W, e1, B6, w6, J6, F6, G6⟩
  · exact Or.inl ⟨c1, c2⟩
  have A6 := B6.1
  have rk := F6.2 k (by show k < q2.2.1; omega)
  have kt := (A6.2.1.2.2.2 _ _ hm (show thO 53 = true by decide)).1.2
  have kt : (k : Int) < (tnM z : Int) := kt
  have e58 : (aI W 58 k).toInt = (q2.2.2.length : Int) := by rw [en_pq A6.2.1 (a := 58) hm rfl (show thO 53 = true by decide) (by omega) (by omega)]; exact h58
  have e51 : (aI W 51 k).toInt = (l.length : Int) := by
    have := (A6.2.1.2.2.2 _ _ h50 (show thO 50 = true by decide)).2.1 rfl
    have this : (aI W 51 (k : Int).toNat).toInt = (l.length : Int) := this
    rw [Int.toNat_natCast] at this
    exact this
  obtain ⟨K, k1, k2, k3⟩ := hJ
  obtain ⟨Kd, d1, d2, d3⟩ := J6
  have d2 : JrR z (((cIy 52 k b3 t3 :: q2.2.2).length : Nat) : Int) (q3.2.2.length : Int) Kd d.2.2.1 := d2
  obtain ⟨V, r7, w7, f7, K', v1, v2⟩ := go_53b (eb := d.1) A6.2.1.1 hm A6.1.1 A6.1.2 w6 (fun q => by have q := lt0_i.mp q; omega) (J0 := jnS σ) (K := K) (Kd := Kd) (by rw [d1, k1, List.append_assoc]) e51 e58 (fun x hx => (hO x hx).1) (fun x hx => by
    have := (d2.fm x hx).1
    rw [List.length_cons] at this
    omega) k2 Iff.rfl
  rw [an_id] at w7 v2
  rw [rk.2.1, s96, or_co] at w7
  refine Or.inr ⟨d, V, e1, A6.mv r7 f7.1.1 f7.2 (Nat.le_succ _), w7.cg ?_, ⟨K' ++ Kd, v1, ?_⟩, (hF.tr (F6.mo (by show k ≤ q2.2.1; omega))).q f7.1 (Nat.le_refl _), ((hG.wd (Nat.le_refl _) (Nat.le_succ _)).tr H.2.2.2.1 hz (by omega) (show q2.1 + 1 ≤ q3.1 by omega) G6).q f7.1⟩
  · rw [rk.1, s95]
    show _ ↔ (c.1 && d.1) = true
    rw [Bool.and_eq_true]
    exact and_comm
  · refine JrR.ap (v2.wd (Int.le_refl _) ?_) (d2.wd ?_ ?_)
    · rw [List.length_cons]; omega
    · rw [List.length_cons]; omega
    · rw [List.length_cons]; omega
theorem fw_ty (H : GxF N C z T ms) (hR : FwRo τ C N z T Rw) {q1 q2 q3 : Ps} {o g w t0 t4 : Int} (B1 : BkD Rw z lv j (j + 1, k + 1, cIy 50 k 0 t0 :: l) q1) (B2 : (o = -1 ∧ w = -1 ∧ q2 = q1) ∨ (o = q1.1 ∧ (0 ≤ w ∧ w < 60) ∧ ∃ t2, BkD Rw z lv j (q1.1, q1.2.1, .inr (51, (k : Int), 0, t2, -2 - w) :: q1.2.2) q2 ∧ (.inr (51, (k : Int), 0, t2, -2 - w) :: q1.2.2) <:+ q2.2.2 ∧ q1.1 + 1 ≤ q2.1 ∧ q1.2.1 ≤ q2.2.1)) (B3 : (g = -1 ∧ q3 = q2) ∨ (g = q2.1 ∧ ∃ t3, BkD Rw z lv j (q2.1, q2.2.1, cIy 52 k 0 t3 :: q2.2.2) q3 ∧ (cIy 52 k 0 t3 :: q2.2.2) <:+ q3.2.2 ∧ q2.1 + 1 ≤ q3.1)) (hog : 0 ≤ o ∨ 0 ≤ g) (hm : (cIy 53 k 0 t4 :: q3.2.2) <:+ z.2.1) (sf : (cIy 50 k 0 t0 :: l) <:+ q1.2.2) (hz : q3.1 ≤ snM z) (hk : kjS z j = 68) (hb : bjS z j = ((j + 1 : Nat) : Int)) (ho : ojS z j = o) (hg : gjS z j = g) (hl : ljS z j = w) (h57 : 0 ≤ o → 0 ≤ pqZ 57 (k : Int) z.2.1) (h57' : o < 0 → pqZ 57 (k : Int) z.2.1 < 0) (h58 : 0 ≤ g → pqZ 58 (k : Int) z.2.1 = (q2.2.2.length : Int)) (h58' : g < 0 → pqZ 58 (k : Int) z.2.1 < 0) (hle : j + 1 + 1 ≤ q1.1 ∧ k + 1 ≤ q1.2.1) : FwI τ C N z T j q3.1 k l (cIy 53 k 0 t4 :: q3.2.2) := by
  intro f M σ mm hf hB hO hw
  rw [i_68 hk]
  unfold tyD'
  rw [hb, ho, hg, hl]
  have hq3 : q3.2.2 <:+ z.2.1 := (List.suffix_cons _ _).trans hm
  have s23 : q2.2.2 <:+ q3.2.2 ∧ q2.1 ≤ q3.1 := by
    rcases B3 with ⟨_, e⟩ | ⟨_, t3, _, s, c⟩
    · rw [e]; exact ⟨List.suffix_rfl, Nat.le_refl _⟩
    · exact ⟨(List.suffix_cons _ _).trans s, by omega⟩
  have s12 : q1.2.2 <:+ q2.2.2 ∧ q1.1 ≤ q2.1 ∧ q1.2.1 ≤ q2.2.1 := by
    rcases B2 with ⟨_, _, e⟩ | ⟨_, _, t2, _, s, c1, c2⟩
    · rw [e]; exact ⟨List.suffix_rfl, Nat.le_refl _, Nat.le_refl _⟩
    · exact ⟨(List.suffix_cons _ _).trans s, by omega, c2⟩
  have hq2 := s23.1.trans hq3
  have hq1 := s12.1.trans hq2
  have h50 := sf.trans hq1
  have n1 := sf.length_le
  rw [List.length_cons] at n1
  have n2 := s12.1.length_le
  have A0 := hB.1
  obtain ⟨Y1, r1, w1, nx1, s99⟩ := go_50 (k := k) A0.2.1.1 h50 A0.1.1 A0.1.2 hw
  rw [an_id] at s99
  have A1 : AtF τ C z T M (cIy 50 k 0 t0 :: l) Y1 := A0.mv r1 nx1.1.1 nx1.2.2 (Nat.le_succ _)
  have B1' := hB.mv (lo' := j + 1 + 1) A1 nx1 hd_r (Nat.le_succ _) (Nat.le_succ _)
  rcases bk_go hR B1 (by omega) hq1 (f := f) (by show 2 * (q1.1 - (j + 1 + 1)) ≤ f; omega) B1' w1 with ⟨c1, c2⟩ | ⟨R, Y2, e2, D2, w2, J2, F2, G2⟩
  · have c2 : bkD' (dF N z T f) z ((j + 1 : Nat) : Int) mm = none := c2
    exact Or.inl ⟨c1, by rw [c2]; rfl⟩
  have e2 : bkD' (dF N z T f) z ((j + 1 : Nat) : Int) mm = some R := e2
  rw [e2, Option.bind_some]
  have A2 := D2.1
  have rk2 := F2.2 k (Nat.lt_succ_self _)
  have J2' : JsH z (l.length : Int) (q1.2.2.length : Int) (jnS σ) Y2 R.2.2.1 := by
    rw [nx1.2.1] at J2
    exact J2.wd (by show (l.length : Int) ≤ (((cIy 50 k 0 t0 :: l).length : Nat) : Int); rw [List.length_cons]; omega) (Int.le_refl _)
  have F2' : FzT k σ Y2 := (nx1.1.fz).tr (F2.mo (Nat.le_succ _))
  have G2' : LgF z (j + 1) q1.1 σ Y2 R.2.2.2 := (G2.qb nx1.1).wd (Nat.le_succ _) (Nat.le_refl _)
  rcases B2 with ⟨eo, ew, e12⟩ | ⟨eo, ⟨w0, w60⟩, t2, B2, s2, le2, le2'⟩
  · -- no catch
    subst e12
    rw [if_pos (by omega), Option.bind_some]
    rcases B3 with ⟨eg, _⟩ | ⟨eg, t3, B3, s3, le3⟩
    · omega
    rw [if_neg (by omega), eg]
    obtain ⟨Y5, r5, w5, nx5, s96, s95⟩ := go_52a (k := k) A2.2.1.1 (s3.trans hq3) A2.1.1 A2.1.2 w2 (fun q => by
      have q := le0_i.mp q
      rw [en_pq A2.2.1 (a := 57) (s3.trans hq3) rfl (show thO 52 = true by decide) (by omega) (by omega)] at q
      have := h57' (by omega)
      omega)
    rw [rk2.2.2.2.2, s99] at w5
    rw [an_id] at s96
    have A5 : AtF τ C z T M (cIy 52 k 0 t3 :: q2.2.2) Y5 := A2.mv r5 nx5.1.1 nx5.2.2 (Nat.le_succ _)
    rcases ty_fin (f := f) H hR B3 hm h50 s3 hz (by omega) (h58 (by omega)) hO ⟨by omega, le3, by omega, by omega⟩ ⟨⟨D2.mv (lo' := q2.1) A5 nx5 hd_r (Nat.le_succ _) (Nat.le_refl _), w5⟩, ⟨s96, s95⟩, J2'.q nx5.2.1, F2'.q nx5.1 (Nat.le_refl _), G2'.q nx5.1⟩ with ⟨c1, c2⟩ | ⟨d, W, e6, h⟩
    · exact Or.inl ⟨c1, by rw [c2]; rfl⟩
    · exact Or.inr ⟨_, W, by rw [e6]; rfl, h⟩
  · -- a catch
    rw [if_neg (by omega), if_neg (by omega), eo]
    have h51 := s2.trans hq2
    have n3 := s2.length_le
    rw [List.length_cons] at n3
    obtain ⟨Y3, r3, w3, nx3, s96, s95, s99'⟩ := go_51 (k := k) A2.2.1.1 h51 A2.1.1 A2.1.2 w2
    have e61 : (aI Y2 61 k).toInt = w := by
      have := (A2.2.1.2.2.2 _ _ h51 (show thO 51 = true by decide)).2.2 rfl
      have this : (aI Y2 61 (k : Int).toNat).toInt = -2 - (-2 - w) := this
      rw [Int.toNat_natCast] at this
      omega
    rw [bq_e e61, rk2.2.2.2.2, s99] at w3
    rw [rk2.2.2.2.2, s99] at s99'
    rw [an_id] at s96
    have A3 : AtF τ C z T M (.inr (51, (k : Int), 0, t2, -2 - w) :: q1.2.2) Y3 := A2.mv r3 nx3.1.1 nx3.2.2 (Nat.le_succ _)
    have B3' := D2.mv (lo' := q1.1 + 1) A3 nx3 hd_r (Nat.le_succ _) (Nat.le_succ _)
    rcases bk_go hR B2 (by omega) hq2 (f := f) (by show 2 * (q2.1 - (q1.1 + 1)) ≤ f; omega) B3' w3 with ⟨c1, c2⟩ | ⟨S, Y4, e4, D4, w4, J4, F4, G4⟩
    · have c2 : bkD' (dF N z T f) z (q1.1 : Int) (mm ||| bitQ w) = none := c2
      exact Or.inl ⟨c1, by rw [c2]; rfl⟩
    have e4 : bkD' (dF N z T f) z (q1.1 : Int) (mm ||| bitQ w) = some S := e4
    have A4 := D4.1
    have rk4 := F4.2 k (by show k < q1.2.1; omega)
    have J4' : JsH z (l.length : Int) (q2.2.2.length : Int) (jnS σ) Y4 (R.2.2.1 ++ S.2.2.1) := by
      rw [nx3.2.1] at J4
      exact (J2'.wd (Int.le_refl _) (by omega)).ap (J4.wd (by show (l.length : Int) ≤ (((Sum.inr (51, (k : Int), 0, t2, -2 - w) :: q1.2.2 : List ItZ).length : Nat) : Int); rw [List.length_cons]; omega) (Int.le_refl _))
    have F4' : FzT k σ Y4 := (F2'.q nx3.1 (Nat.le_refl _)).tr (F4.mo (by show k ≤ q1.2.1; omega))
    have G4' : LgF z (j + 1) q2.1 σ Y4 (R.2.2.2 ++ S.2.2.2) := (G2'.wd (Nat.le_refl _) (Nat.le_succ _)).tr H.2.2.2.1 (by omega) (by omega) le2 (G4.qb nx3.1)
    rw [e4]
    rcases B3 with ⟨eg, e23⟩ | ⟨eg, t3, B3, s3, le3⟩
    · -- no finally
      subst e23
      have he : aI Y4 58 k < 0 := lt0_i.mpr (by
        rw [en_pq A4.2.1 (a := 58) hm rfl (show thO 53 = true by decide) (by omega) (by omega)]
        exact h58' (by omega))
      obtain ⟨Y5, r5, w5, nx5⟩ := go_53a (k := k) A4.2.1.1 hm A4.1.1 A4.1.2 w4 he
      rw [rk4.2.1, s96, an_id, an_co] at w5
      refine Or.inr ⟨(R.1 || S.1, R.2.1 &&& S.2.1, R.2.2.1 ++ S.2.2.1, R.2.2.2 ++ S.2.2.2), Y5, ?_, A4.mv r5 nx5.1.1 nx5.2.2 (Nat.le_succ _), w5.cg ?_, (J4'.jk.q nx5.2.1).wd (Int.le_refl _) (by rw [List.length_cons]; omega), F4'.q nx5.1 (Nat.le_refl _), G4'.q nx5.1⟩
      · show (some _ : Option ReG).bind _ = _
        rw [Option.bind_some, if_pos (by omega)]
      · rw [rk4.1, s95, or_tt]
        exact or_comm
    · -- a finally
      show (BdF τ ∧ (some (R.1 || S.1, R.2.1 &&& S.2.1, R.2.2.1 ++ S.2.2.1, R.2.2.2 ++ S.2.2.2) : Option ReG).bind _ = none) ∨ ∃ R' Y, (some (R.1 || S.1, R.2.1 &&& S.2.1, R.2.2.1 ++ S.2.2.1, R.2.2.2 ++ S.2.2.2) : Option ReG).bind _ = some R' ∧ _
      rw [Option.bind_some, if_neg (by omega), eg]
      obtain ⟨Y5, r5, w5, nx5, u96, u95⟩ := go_52b (k := k) A4.2.1.1 (s3.trans hq3) A4.1.1 A4.1.2 w4 (le0_i.mpr (by
        rw [en_pq A4.2.1 (a := 57) (s3.trans hq3) rfl (show thO 52 = true by decide) (by omega) (by omega)]
        exact h57 (by omega)))
      rw [rk4.2.2.2.2, s99'] at w5
      rw [an_id, rk4.2.1, s96, an_co] at u96
      rw [rk4.1, s95] at u95
      have A5 : AtF τ C z T M (cIy 52 k 0 t3 :: q2.2.2) Y5 := A4.mv r5 nx5.1.1 nx5.2.2 (Nat.le_succ _)
      rcases ty_fin (f := f) (c := (R.1 || S.1, R.2.1 &&& S.2.1, R.2.2.1 ++ S.2.2.1, R.2.2.2 ++ S.2.2.2)) H hR B3 hm h50 s3 hz (by omega) (h58 (by omega)) hO ⟨by omega, le3, by omega, by omega⟩ ⟨⟨D4.mv (lo' := q2.1) A5 nx5 hd_r (Nat.le_succ _) (Nat.le_refl _), w5⟩, ⟨u96, u95.trans (or_comm.trans or_tt.symm)⟩, J4'.q nx5.2.1, F4'.q nx5.1 (Nat.le_refl _), G4'.q nx5.1⟩ with ⟨c1, c2⟩ | ⟨d, W, e6, h⟩
      · exact Or.inl ⟨c1, by rw [c2]; rfl⟩
      · exact Or.inr ⟨_, W, by rw [e6]; rfl, h⟩
end
