/-! frames are opened and left -/
theorem BZ.own {N : Int → Int} {σ : RS} {z : ZS} {F : List FrZ} {j : Nat} {c : Nat × Nat} {x : List Int} {out : List (Int × Int)} {k lv : Int} (h : BZ N σ z F ((12, j, c, x, out) :: F)) (hk : k = 9 ∨ k = 10 ∨ k = 11) (hs : ¬ k = 10 → z.2.2.2.1.1 = out) : BZ N σ (arM (snM z) (beM 92 lv z)) F ((k, j, c, [-1, -1, -1] ++ [(snM z : Int)], out) :: F) := by
  have h1 := h.be (k := 92) (lv := lv)
  obtain ⟨⟨g1, g2, g3, g4, g5, g6, g7, g8⟩, h2, h3⟩ := h1
  have ow : owF (k, j, c, [-1, -1, -1] ++ [(snM z : Int)], out) = snM z := by
    unfold owF
    rw [if_pos (by show 9 ≤ k ∧ k ≤ 11; omega)]
    show ((snM z : Int)).toNat = _
    omega
  have a0 := h.1.2.2.2.2.1
  obtain ⟨b0, b1, b2, b3, b4, b5, b6, b7, b8, b9⟩ := g5
  obtain ⟨c0, c1, c2, c3⟩ := a0
  have o12 : owF ((12, j, c, x, out) : FrZ) = j := if_neg (show ¬ ((9 : Int) ≤ 12 ∧ (12 : Int) ≤ 11) by decide)
  rw [o12] at b0 c0 c2
  have c0 : z.2.2.2.1.2 = (j : Int) := c0
  have R : reS (beM 92 lv z) (snM z) = ((92, zAt z.1, lv, z.2.2.2.1.2), z.2.2.2.1.1, (-1, -1, -1, -1, -1, -1, (tnM z : Int))) := if_pos rfl
  have sn1 : snM (beM 92 lv z) = snM z + 1 := rfl
  have sg : SgZ (beM 92 lv z) (arM (snM z) (beM 92 lv z)) := SgZ.e rfl
  have kd : kdF k = 68 := by rcases hk with rfl | rfl | rfl <;> rfl
  have ac : AcZ (beM 92 lv z) ((k, j, c, [-1, -1, -1] ++ [(snM z : Int)], out) :: F) (snM z : Int) (snM (beM 92 lv z)) := by
    refine ⟨by rw [ow], by rw [ow]; show j ≤ snM z; omega, by rw [ow, sn1]; exact Nat.lt_succ_self _, by show 0 ≤ k ∧ k ≤ 12; omega, by rw [show kdF (k, j, c, [-1, -1, -1] ++ [(snM z : Int)], out).1 = 68 from kd]; exact b4, fun _ => ⟨by rw [ow]; exact c2, by rw [ow]; unfold kjS; rw [R], by rw [ow]; unfold paS; rw [R]; exact c0⟩, fun _ => b6 (show ¬ (12 : Int) = 0 by decide), fun q => ?_, b8, b9⟩
    have q : k = 7 := q
    omega
  have ft : FtZ ((k, j, c, [-1, -1, -1] ++ [(snM z : Int)], out) :: F) (tnM (beM 92 lv z)) := ⟨g4.1, by show k ≤ 12; omega, g4.2.2⟩
  have kz : KnZ (fun v => (aI σ 47 v).toInt) ((k, j, c, [-1, -1, -1] ++ [(snM z : Int)], out) :: F) z.2.2.2.1.1 := by
    have q : ∃ seg, z.2.2.2.1.1 = seg ++ out ∧ (∀ p ∈ seg, 0 ≤ p.1 ∧ (aI σ 47 p.1.toNat).toInt = nuF (12, j, c, x, out)) ∧ KnZ (fun v => (aI σ 47 v).toInt) F out := h.1.2.2.2.2.2.1
    have sc : scF k = true := by rcases hk with rfl | rfl | rfl <;> rfl
    show (if scF k = true then ∃ seg, z.2.2.2.1.1 = seg ++ out ∧ (∀ p ∈ seg, 0 ≤ p.1 ∧ (aI σ 47 p.1.toNat).toInt = nuF (k, j, c, [-1, -1, -1] ++ [(snM z : Int)], out)) ∧ KnZ (fun v => (aI σ 47 v).toInt) F out else _)
    rw [if_pos sc]
    obtain ⟨seg, q1, q2, q3⟩ := q
    by_cases h10 : k = 10
    · subst h10
      exact ⟨seg, q1, q2, q3⟩
    · exact ⟨[], hs h10, fun _ q => (by cases q), q3⟩
  obtain ⟨f1, f2, i, b, f3, f4⟩ := g3
  refine ⟨⟨g1.z rfl, g2, ⟨FxR.g (z := beM 92 lv z) (z' := arM (snM z) (beM 92 lv z)) List.suffix_rfl sg f1 f2 f4 f3 (fun _ _ => rfl) (fun _ _ => ⟨rfl, rfl, rfl⟩), f2, i, b, f3, AcZ.g sg f3 f4⟩, ft, AcZ.g sg (Nat.le_refl _) ac, kz, g7, g8⟩, ⟨h2.1, h2.2.1, h2.2.2.1, h2.2.2.2.1, fun b hb h0' => ?_⟩, h3⟩
  rcases List.mem_cons.mp hb with rfl | hb
  · exact h2.2.2.2.2 (12, j, c, x, out) List.mem_cons_self (show ¬ (12 : Int) = 0 by decide)
  · exact h2.2.2.2.2 b (List.mem_cons_of_mem _ hb) h0'
/-- open -/
def OfZ (σ : RS) (s k p : Int32) (τ : RS) : Prop := (∀ j, j ≠ 17 → j ≠ 62 → gI τ j = gI σ j) ∧ gI τ 62 = gI σ 62 + 1 ∧ (aI τ 63 = upd (aI σ 63) (nT (gI σ 62)) s ∧ aI τ 64 = upd (aI σ 64) (nT (gI σ 62)) k ∧ aI τ 65 = upd (aI σ 65) (nT (gI σ 62)) p) ∧ (∀ j, j < 63 ∨ 65 < j → aI τ j = aI σ j) ∧ (0 ≤ gI σ 62 ∧ gI σ 62 < 80)
theorem BZ.op {N : Int → Int} {σ τ : RS} {z : ZS} {F : List FrZ} {a : FrZ} {s k p : Int32} (h : BZ N σ z F (a :: F)) (e : OfZ σ s k p τ) (l : aL τ = aL σ) (hs : s.toInt = a.1) (hk : k.toInt = (a.2.2.1.2 : Int)) (h0 : ¬ a.1 = 0 → p.toInt = (a.2.2.1.1 : Int) ∧ itN z.2.1 a.2.2.1.1 = some (.inr (20, 0, 0, fiS z a.2.1, -1)) ∧ (aI σ 60 a.2.2.1.2).toInt = fiS z a.2.1) (h7 : LbF σ z a) (h9 : a.1 = 9 → ∀ c x, itN z.2.1 c = some (.inr x) → x.1 = 51 → ¬ x.2.1 = (a.2.2.1.2 : Int)) : BZ N τ z (a :: F) (a :: F) := by
  obtain ⟨e1, e2, ⟨e3, e4, e5⟩, e6, e7⟩ := e
  have en : nT (gI σ 62) = F.length := h.1.2.1.2
  have e62 : nT (gI τ 62) = F.length + 1 := by rw [e2, nT_add e7.1 (by lia), en]
  have p' : PcM id τ z := h.1.1.fr (e1 18 (by decide) (by decide)) (fun j q1 q2 _ _ => by rw [e6 j (by omega)])
  refine ⟨h.1.op p' (e1 42 (by decide) (by decide)) (e1 49 (by decide) (by decide)) e62 (e6 47 (by omega)) (e6 48 (by omega)) (e6 60 (by omega)) (fun j hj => ⟨by rw [e3, upd_ne (by omega)], by rw [e4, upd_ne (by omega)], by rw [e5, upd_ne (by omega)]⟩) (by rw [e3, en, upd_eq]; exact hs) (by rw [e4, en, upd_eq]; exact hk) (fun q => ⟨by rw [e5, en, upd_eq]; exact (h0 q).1, (h0 q).2.1, by rw [e6 60 (by omega)]; exact (h0 q).2.2⟩), ⟨?_, ?_, ?_, ?_, h.2.1.2.2.2.2⟩, by rw [e1 49 (by decide) (by decide)]; exact h.2.2⟩
  · intro i h1 h2 h3
    rw [e1 2 (by decide) (by decide)] at h1
    rw [e6 3 (by omega)] at h3
    rw [e6 10 (by omega)]
    exact h.2.1.1 i h1 h2 h3
  · intro i j
    rw [e1 2 (by decide) (by decide), e6 3 (by omega), e6 8 (by omega), e6 5 (by omega), l]
    exact h.2.1.2.1 i j
  · refine LbZ.fr (σ := σ) (fun b hb => ?_) (e1 2 (by decide) (by decide)) (e1 36 (by decide) (by decide)) (e6 3 (by omega)) (e6 37 (by omega))
    rcases List.mem_cons.mp hb with rfl | hb
    · exact h7
    · exact h.2.1.2.2.1 b hb
  · intro b hb q9
    rcases List.mem_cons.mp hb with rfl | hb
    · exact h9 q9
    · exact h.2.1.2.2.2.1 b hb q9
/-- leave -/
def LvZ (σ : RS) (k t : Int32) (τ : RS) : Prop := (∀ j, gI τ j = gI σ j) ∧ (∀ j, j ≠ 48 → aI τ j = aI σ j) ∧ ∀ v, v < nT (gI σ 42) → aI τ 48 v = if aI σ 47 v = k ∧ aI σ 48 v < 0 then t else aI σ 48 v
theorem nT_600 {x : Int32} (h : 0 ≤ x ∧ x ≤ 600) : nT x ≤ 600 := by
  have a : (0 : Int32).toInt ≤ x.toInt := Int32.le_iff_toInt_le.mp h.1
  have b : x.toInt ≤ (600 : Int32).toInt := Int32.le_iff_toInt_le.mp h.2
  have b : x.toInt ≤ 600 := b
  show x.toInt.toNat ≤ 600
  omega
theorem BZ.lv {N : Int → Int} {σ τ : RS} {z : ZS} {F K : List FrZ} {a : FrZ} {k t : Int32} (h : BZ N σ z F (a :: K)) (e : LvZ σ k t τ) (l : aL τ = aL σ) (hs : scF a.1 = true) (hk : k.toInt = nuF a) (h0 : 0 ≤ t.toInt) : BZ N τ (veM t.toInt a.2.2.2.2 z) F (a :: K) ∧ KnZ (fun v => (aI τ 47 v).toInt) K a.2.2.2.2 := by
  obtain ⟨e1, e2, e3⟩ := e
  have hm : tnM z ≤ 1000 := by have := nT_600 h.2.2; have := h.1.2.1.1; omega
  have p : PcM id τ z := h.1.1.fr (e1 18) (fun j q1 q2 _ _ => by rw [e2 j (by omega)])
  have q := h.1.lv p hs h0 hm (e1 42) (e1 49) (e1 62) (e2 47 (by decide)) (fun v hv => by
    rw [e3 v hv]
    have c : (aI σ 47 v = k ∧ aI σ 48 v < 0) ↔ ((aI σ 47 v).toInt = nuF a ∧ (aI σ 48 v).toInt < 0) := by
      rw [← hk, Int32.toInt_inj, Int32.lt_iff_toInt_lt]
      exact Iff.rfl
    by_cases q : aI σ 47 v = k ∧ aI σ 48 v < 0
    · rw [if_pos q, if_pos (c.mp q)]
    · rw [if_neg q, if_neg (fun q' => q (c.mpr q'))]) (e2 60 (by decide)) (e2 63 (by decide)) (e2 64 (by decide)) (e2 65 (by decide))
  refine ⟨⟨q.1, ⟨?_, ?_, ?_, h.2.1.2.2.2⟩, by rw [e1 49]; exact h.2.2⟩, q.2⟩
  · intro i h1 h2 h3
    rw [e1 2] at h1
    rw [e2 3 (by decide)] at h3
    rw [e2 10 (by decide)]
    exact h.2.1.1 i h1 h2 h3
  · intro i j
    rw [e1 2, e2 3 (by decide), e2 8 (by decide), e2 5 (by decide), l]
    exact h.2.1.2.1 i j
  · exact LbZ.fr (z := z) h.2.1.2.2.1 (e1 2) (e1 36) (e2 3 (by decide)) (e2 37 (by decide))
/-- a frame is left -/
theorem BZ.po {N : Int → Int} {σ : RS} {z : ZS} {F : List FrZ} {a : FrZ} (h : BZ N σ z (a :: F) (a :: F)) (h9 : ¬ 9 ≤ a.1 ∨ a.1 = 12) (h0 : 0 < gI σ 62) (hk : KnZ (fun v => (aI σ 47 v).toInt) F z.2.2.2.1.1) : BZ N (sI σ 62 (gI σ 62 - 1)) (unM a.2.1 z) F F := by
  have e := nT_sub h0
  refine ⟨h.1.po (h.1.1.i (by decide)) h9 hk rfl rfl (by show nT (gI σ 62 - 1) + 1 = _; omega) rfl rfl rfl rfl rfl rfl, ⟨h.2.1.1, h.2.1.2.1, fun b hb => h.2.1.2.2.1 b (List.mem_cons_of_mem _ hb), fun b hb => h.2.1.2.2.2.1 b (List.mem_cons_of_mem _ hb), fun b hb => h.2.1.2.2.2.2 b (List.mem_cons_of_mem _ hb)⟩, h.2.2⟩
/-- one that keeps no variables of its own -/
theorem BZ.kn {N : Int → Int} {σ : RS} {z : ZS} {F K : List FrZ} {a : FrZ} (h : BZ N σ z F (a :: K)) (hs : scF a.1 = false) : KnZ (fun v => (aI σ 47 v).toInt) K z.2.2.2.1.1 := by
  have q : (if scF a.1 = true then ∃ seg, z.2.2.2.1.1 = seg ++ a.2.2.2.2 ∧ (∀ p ∈ seg, 0 ≤ p.1 ∧ (aI σ 47 p.1.toNat).toInt = nuF a) ∧ KnZ (fun v => (aI σ 47 v).toInt) K a.2.2.2.2 else KnZ (fun v => (aI σ 47 v).toInt) K z.2.2.2.1.1) := h.1.2.2.2.2.2.1
  rw [if_neg (by rw [hs]; decide)] at q
  exact q
/-- a row of try's is left: the try S stands around -/
theorem BZ.p9 {N : Int → Int} {σ : RS} {z : ZS} {F : List FrZ} {a : FrZ} {x : List Int} (h : BZ N σ z (a :: F) (a :: F)) (h9 : 9 ≤ a.1 ∧ a.1 ≤ 11) (h0 : 0 < gI σ 62) (hk : KnZ (fun v => (aI σ 47 v).toInt) F a.2.2.2.2) (hz : z.2.2.2.1.1 = a.2.2.2.2) : BZ N (sI σ 62 (gI σ 62 - 1)) (unM (owF a) z) F ((12, a.2.1, a.2.2.1, x, a.2.2.2.2) :: F) := by
  have e := nT_sub h0
  obtain ⟨⟨g1, ⟨g2, g3⟩, ⟨f1, f2, i, b, f3, f4⟩, g4, g5, g6, g7, g8⟩, ⟨h1, h2, h3, h4, h4'⟩, h5⟩ := h
  have sg : SgZ z (unM (owF a) z) := SgZ.e rfl
  obtain ⟨b0, b1, b2, b3, b4, b5, b6, b7, b8, b9⟩ := g5
  obtain ⟨r1, r2, r3⟩ := b5 h9
  have hb : a.2.1 ≤ snM z := by omega
  have ft : FtZ F (tnM z) := g4.2.2.m (by have := g4.1; omega)
  have o12 : owF ((12, a.2.1, a.2.2.1, x, a.2.2.2.2) : FrZ) = a.2.1 := if_neg (show ¬ ((9 : Int) ≤ 12 ∧ (12 : Int) ≤ 11) by decide)
  have kd : kdF a.1 = 68 := by
    have : a.1 = 9 ∨ a.1 = 10 ∨ a.1 = 11 := by omega
    rcases this with q | q | q <;> rw [q] <;> rfl
  have ac : AcZ z ((12, a.2.1, a.2.2.1, x, a.2.2.2.2) :: F) (paS z (owF a)) (snM z) := by
    refine ⟨by rw [o12]; exact r3, by rw [o12]; exact Nat.le_refl _, by rw [o12]; show a.2.1 < snM z; omega, by show (0 : Int) ≤ 12 ∧ (12 : Int) ≤ 12; decide, by rw [show kdF ((12, a.2.1, a.2.2.1, x, a.2.2.2.2) : FrZ).1 = kdF a.1 from kd.symm]; exact b4, fun q => absurd q (show ¬ ((9 : Int) ≤ 12 ∧ (12 : Int) ≤ 11) by decide), fun _ => b6 (by omega), fun q => absurd (show (12 : Int) = 7 from q) (by decide), b8, b9⟩
  refine ⟨⟨g1.i (by decide) |>.z rfl, ⟨g2, by show nT (gI σ 62 - 1) = _; rw [List.length_cons] at g3; omega⟩, ⟨FxR.g (σ := σ) (z := z) (z' := unM (owF a) z) List.suffix_rfl sg f1.2.2 ft b9 hb (fun _ _ => rfl) (fun _ _ => ⟨rfl, rfl, rfl⟩), ft, _, _, hb, AcZ.g sg hb b9⟩, ⟨g4.1, by show (12 : Int) ≤ 12; decide, g4.2.2⟩, AcZ.g sg (Nat.le_refl _) ac, ?_, g7, g8⟩, ⟨h1, h2, fun b hb => h3 b (List.mem_cons_of_mem _ hb), fun b hb => h4 b (List.mem_cons_of_mem _ hb), fun b hb h0' => ?_⟩, h5⟩
  rotate_left
  · rcases List.mem_cons.mp hb with rfl | hb
    · exact h4' a List.mem_cons_self (by omega)
    · exact h4' b (List.mem_cons_of_mem _ hb) h0'
  show ∃ seg, z.2.2.2.1.1 = seg ++ a.2.2.2.2 ∧ (∀ p ∈ seg, 0 ≤ p.1 ∧ (aI σ 47 p.1.toNat).toInt = nuF (12, a.2.1, a.2.2.1, x, a.2.2.2.2)) ∧ KnZ (fun v => (aI σ 47 v).toInt) F a.2.2.2.2
  exact ⟨[], hz, fun _ q => (by cases q), hk⟩
/-- the try S ends -/
theorem BZ.pe {N : Int → Int} {σ : RS} {z : ZS} {F : List FrZ} {j : Nat} {c : Nat × Nat} {x : List Int} {out : List (Int × Int)} (h : BZ N σ z F ((12, j, c, x, out) :: F)) (hz : z.2.2.2.1.1 = out) : BZ N σ (unM j z) F F := by
  obtain ⟨⟨g1, g2, ⟨f1, f2, i, b, f3, f4⟩, g4, g5, g6, g7, g8⟩, h2, h3⟩ := h
  have sg : SgZ z (unM j z) := SgZ.e rfl
  obtain ⟨b0, b1, b2, b3, b4, b5, b6, b7, b8, b9⟩ := g5
  have hb : j ≤ snM z := by have b1 : j ≤ owF (12, j, c, x, out) := b1; omega
  have q : ∃ seg, z.2.2.2.1.1 = seg ++ out ∧ (∀ p ∈ seg, 0 ≤ p.1 ∧ (aI σ 47 p.1.toNat).toInt = nuF (12, j, c, x, out)) ∧ KnZ (fun v => (aI σ 47 v).toInt) F out := g6
  obtain ⟨seg, q1, q2, q3⟩ := q
  refine ⟨⟨g1.z rfl, g2, ⟨FxR.g (z := z) (z' := unM j z) List.suffix_rfl sg f1 f2 f4 f3 (fun _ _ => rfl) (fun _ _ => ⟨rfl, rfl, rfl⟩), f2, i, b, f3, AcZ.g sg f3 f4⟩, f2, (AcZ.g sg hb b9).m hb, ?_, g7, g8⟩, ⟨h2.1, h2.2.1, h2.2.2.1, h2.2.2.2.1, fun b hb => h2.2.2.2.2 b (List.mem_cons_of_mem _ hb)⟩, h3⟩
  show KnZ _ F z.2.2.2.1.1
  rw [hz]
  exact q3
/-- what a row's frame tells of its parts counts for nothing here -/
theorem AcZ.pa {z : ZS} {a : FrZ} {j : Nat} {F : List FrZ} {i : Int} {m : Nat} (h : AcZ z (a :: F) i m) : AcZ z (paF a j :: F) i m := by
  have ow : owF (paF a j) = owF a := by
    unfold owF
    show (if 9 ≤ a.1 ∧ a.1 ≤ 11 then (([_, _, _] ++ a.2.2.2.1.drop 3).getD 3 0).toNat else a.2.1) = _
    have e : ∀ p q r : Int, ([p, q, r] ++ a.2.2.2.1.drop 3).getD 3 0 = a.2.2.2.1.getD 3 0 := fun p q r => by simp [List.getD, List.getElem?_drop]
    rw [e]
  obtain ⟨b0, b1, b2, b3, b4, b5, b6, b7, b8, b9⟩ := h
  exact ⟨by rw [ow]; exact b0, by rw [ow]; exact b1, by rw [ow]; exact b2, b3, b4, fun q => by rw [ow]; exact b5 q, b6, b7, b8, b9⟩
theorem BZ.pa {N : Int → Int} {σ : RS} {z : ZS} {F : List FrZ} {a : FrZ} {j : Nat} (h : BZ N σ z (a :: F) (a :: F)) : BZ N σ z (paF a j :: F) (paF a j :: F) := by
  obtain ⟨⟨g1, g2, ⟨f1, f2, i, b, f3, f4⟩, g4, g5, g6, g7, g8⟩, ⟨h1, h2, h3, h4, h4'⟩, h5⟩ := h
  have e4 : ∀ p q r : Int, ([p, q, r] ++ a.2.2.2.1.drop 3).getD 4 0 = a.2.2.2.1.getD 4 0 := fun p q r => by simp [List.getD, List.getElem?_drop]
  have e5 : ∀ p q r : Int, ([p, q, r] ++ a.2.2.2.1.drop 3).getD 5 0 = a.2.2.2.1.getD 5 0 := fun p q r => by simp [List.getD, List.getElem?_drop]
  refine ⟨⟨g1, g2, ⟨f1, f2, i, b, f3, f4.pa⟩, g4, g5.pa, g6, g7, g8⟩, ⟨h1, h2, fun b hb => ?_, fun b hb q => ?_, fun b hb q => ?_⟩, h5⟩
  · rcases List.mem_cons.mp hb with rfl | hb
    · have q := h3 a List.mem_cons_self
      refine ⟨q.1, fun h0 => ?_⟩
      have q2 := q.2 h0
      show _ = ([_, _, _] ++ a.2.2.2.1.drop 3).getD 4 0 ∧ _ = ([_, _, _] ++ a.2.2.2.1.drop 3).getD 5 0
      rw [e4, e5]
      exact q2
    · exact h3 b (List.mem_cons_of_mem _ hb)
  · rcases List.mem_cons.mp hb with rfl | hb
    · exact h4 a List.mem_cons_self q
    · exact h4 b (List.mem_cons_of_mem _ hb) q
  · rcases List.mem_cons.mp hb with rfl | hb
    · exact h4' a List.mem_cons_self q
    · exact h4' b (List.mem_cons_of_mem _ hb) q
/-- nor of a frame that is no row of try's -/
theorem BZ.xx {N : Int → Int} {σ : RS} {z : ZS} {F K : List FrZ} {k : Int} {j : Nat} {c : Nat × Nat} {x y : List Int} {out : List (Int × Int)} (h : BZ N σ z F ((k, j, c, x, out) :: K)) (hk : ¬ (9 ≤ k ∧ k ≤ 11)) : BZ N σ z F ((k, j, c, y, out) :: K) := by
  obtain ⟨⟨g1, g2, g3, g4, g5, g6, g7, g8⟩, h2, h3⟩ := h
  have o1 : owF ((k, j, c, x, out) : FrZ) = j := if_neg hk
  have o2 : owF ((k, j, c, y, out) : FrZ) = j := if_neg hk
  obtain ⟨b0, b1, b2, b3, b4, b5, b6, b7, b8, b9⟩ := g5
  rw [o1] at b0 b1 b2
  exact ⟨⟨g1, g2, g3, g4, ⟨by rw [o2]; exact b0, by rw [o2]; exact b1, by rw [o2]; exact b2, b3, b4, fun q => absurd q hk, b6, b7, b8, b9⟩, g6, g7, g8⟩, ⟨h2.1, h2.2.1, h2.2.2.1, h2.2.2.2.1, fun b hb h0' => by
    rcases List.mem_cons.mp hb with rfl | hb
    · exact h2.2.2.2.2 (k, j, c, x, out) List.mem_cons_self h0'
    · exact h2.2.2.2.2 b (List.mem_cons_of_mem _ hb) h0'⟩, h3⟩
theorem ZRx.frm {σ : RS} {z : ZS} {F K : List FrZ} (h : ZRx σ z F K) : frR σ = F.map (·.1) := by
  have e := h.2.1.2
  have f := h.2.2.1.1
  unfold frR
  rw [e]
  have g : ∀ {F : List FrZ}, FxR σ z F → olY (aI σ 63) F.length = F.map (·.1) := by
    intro F
    induction F with
    | nil => intro _; rfl
    | cons a F ih =>
      intro q
      show (aI σ 63 F.length).toInt :: olY (aI σ 63) F.length = a.1 :: F.map (·.1)
      rw [q.1.1, ih q.2.2]
  exact g f
theorem ZRx.cons {σ : RS} {z : ZS} {F K : List FrZ} (h : ZRx σ z F K) (p : 0 < gI σ 62) : ∃ a G, F = a :: G := by
  cases F with
  | nil =>
    have e := h.2.1.2
    have := nT_sub p
    rw [e] at this
    exact absurd this (by show ¬ 0 = _ + 1; omega)
  | cons a G => exact ⟨a, G, rfl⟩
theorem ZRx.top {σ : RS} {z : ZS} {a : FrZ} {F K : List FrZ} (h : ZRx σ z (a :: F) K) (p : 0 < gI σ 62) : (aI σ 63 (gI σ 62 - 1).toNatClampNeg).toInt = a.1 ∧ (aI σ 64 (gI σ 62 - 1).toNatClampNeg).toInt = (a.2.2.1.2 : Int) ∧ (¬ a.1 = 0 → (aI σ 65 (gI σ 62 - 1).toNatClampNeg).toInt = (a.2.2.1.1 : Int) ∧ itN z.2.1 a.2.2.1.1 = some (.inr (20, 0, 0, fiS z a.2.1, -1)) ∧ (aI σ 60 a.2.2.1.2).toInt = fiS z a.2.1) := by
  have e := h.2.1.2
  have f := h.2.2.1.1
  have t : (gI σ 62 - 1).toNatClampNeg = F.length := by
    have := nT_sub p
    have q : nT (gI σ 62 - 1) = F.length := by rw [List.length_cons] at e; omega
    exact q
  rw [t]
  exact ⟨f.1.1, f.1.2, f.2.1⟩
/-- the reference's frame is left first -/
theorem BZ.pf {N : Int → Int} {σ : RS} {z : ZS} {F K : List FrZ} {a : FrZ} (h : BZ N σ z (a :: F) K) (h0 : 0 < gI σ 62) (ha : ∃ i b, b ≤ snM z ∧ AcZ z F i b) (ft : FtZ F (tnM z)) : BZ N (sI σ 62 (gI σ 62 - 1)) z F K := by
  have e := nT_sub h0
  obtain ⟨⟨g1, ⟨g2, g3⟩, ⟨f1, f2, f3⟩, g4, g5, g6, g7, g8⟩, ⟨h1, h2, h3, h4, h4'⟩, h5⟩ := h
  obtain ⟨i, b, q1, q2⟩ := ha
  exact ⟨⟨g1.i (by decide), ⟨g2, by show nT (gI σ 62 - 1) = _; rw [List.length_cons] at g3; omega⟩, ⟨FxR.g (σ := σ) List.suffix_rfl SgZ.rf f1.2.2 ft q2 q1 (fun _ _ => rfl) (fun _ _ => ⟨rfl, rfl, rfl⟩), ft, i, b, q1, q2⟩, g4, g5, g6, g7, g8⟩, ⟨h1, h2, fun b hb => h3 b (List.mem_cons_of_mem _ hb), fun b hb => h4 b (List.mem_cons_of_mem _ hb), h4'⟩, h5⟩
theorem BZ.pg {N : Int → Int} {σ : RS} {z : ZS} {F : List FrZ} {a : FrZ} (h : BZ N σ z (a :: F) (a :: F)) (h0 : 0 < gI σ 62) : BZ N (sI σ 62 (gI σ 62 - 1)) z F (a :: F) := by
  obtain ⟨b0, b1, b2, b3, b4, b5, b6, b7, b8, b9⟩ := h.1.2.2.2.2.1
  have g4 := h.1.2.2.2.1
  exact h.pf h0 ⟨_, _, by omega, b9⟩ (g4.2.2.m (by have := g4.1; omega))
/-- its variables have ended: what is around it stands around -/
theorem BZ.pk {N : Int → Int} {σ : RS} {z : ZS} {F : List FrZ} {a : FrZ} (h : BZ N σ z F (a :: F)) (hk : KnZ (fun v => (aI σ 47 v).toInt) F z.2.2.2.1.1) : BZ N σ (unM a.2.1 z) F F := by
  obtain ⟨⟨g1, g2, ⟨f1, f2, i, b, f3, f4⟩, g4, g5, g6, g7, g8⟩, h2, h3⟩ := h
  have sg : SgZ z (unM a.2.1 z) := SgZ.e rfl
  obtain ⟨b0, b1, b2, b3, b4, b5, b6, b7, b8, b9⟩ := g5
  have hb : a.2.1 ≤ snM z := by omega
  exact ⟨⟨g1.z rfl, g2, ⟨FxR.g (z := z) (z' := unM a.2.1 z) List.suffix_rfl sg f1 f2 f4 f3 (fun _ _ => rfl) (fun _ _ => ⟨rfl, rfl, rfl⟩), f2, i, b, f3, AcZ.g sg f3 f4⟩, f2, (AcZ.g sg hb b9).m hb, hk, g7, g8⟩, ⟨h2.1, h2.2.1, h2.2.2.1, h2.2.2.2.1, fun b hb => h2.2.2.2.2 b (List.mem_cons_of_mem _ hb)⟩, h3⟩
/-- if: its else begins -/
theorem BZ.fs {N : Int → Int} {σ : RS} {z : ZS} {F : List FrZ} {j : Nat} {c : Nat × Nat} {x y : List Int} {out : List (Int × Int)} {i : Nat} (h : BZ N σ z ((2, j, c, x, out) :: F) ((2, j, c, x, out) :: F)) (hi : i = F.length) : BZ N (sA σ 63 (upd (aI σ 63) i 3)) z ((3, j, c, y, out) :: F) ((3, j, c, y, out) :: F) := by
  subst hi
  obtain ⟨⟨g1, g2, ⟨f1, f2, i, b, f3, f4⟩, g4, g5, g6, g7, g8⟩, ⟨h1, h2, h3, h4, h4'⟩, h5⟩ := h
  have ac : ∀ {i : Int} {m : Nat}, AcZ z ((2, j, c, x, out) :: F) i m → AcZ z ((3, j, c, y, out) :: F) i m := by
    intro i m q
    obtain ⟨b0, b1, b2, b3, b4, b5, b6, b7, b8, b9⟩ := q
    exact ⟨b0, b1, b2, by show (0 : Int) ≤ 3 ∧ (3 : Int) ≤ 12; decide, b4, fun q => absurd q (show ¬ ((9 : Int) ≤ 3 ∧ (3 : Int) ≤ 11) by decide), fun _ => b6 (show ¬ (2 : Int) = 0 by decide), fun q => absurd (show (3 : Int) = 7 from q) (by decide), b8, b9⟩
  have pc : PcM id (sA σ 63 (upd (aI σ 63) F.length 3)) z := g1.a (by decide)
  refine ⟨⟨pc, g2, ⟨⟨⟨?_, f1.1.2⟩, fun _ => f1.2.1 (show ¬ (2 : Int) = 0 by decide), ?_⟩, ⟨f2.1, (show (3 : Int) ≤ 12 by decide), f2.2.2⟩, i, b, f3, ac f4⟩, ⟨g4.1, (show (3 : Int) ≤ 12 by decide), g4.2.2⟩, ac g5, g6, g7, g8⟩, ⟨h1, h2, LbZ.fr (σ := σ) (fun b hb => ?_) rfl rfl rfl rfl, fun b hb q => ?_, fun b hb q => ?_⟩, h5⟩
  · show (aI (sA σ 63 (upd (aI σ 63) F.length 3)) 63 F.length).toInt = 3
    rw [aI_eq, upd_eq]
    rfl
  · obtain ⟨b0, b1, b2, b3, b4, b5, b6, b7, b8, b9⟩ := f4
    exact FxR.g (σ := σ) List.suffix_rfl SgZ.rf f1.2.2 f2.2.2 b9 (by have b1 : j ≤ _ := b1; show j ≤ _; omega) (fun _ _ => rfl) (fun k hk => ⟨by rw [aI_eq, upd_ne (by omega)], rfl, rfl⟩)
  · rcases List.mem_cons.mp hb with rfl | hb
    · exact ⟨fun q => absurd (show (3 : Int) = 7 from q) (by decide), fun q => absurd (show (3 : Int) = 0 from q) (by decide)⟩
    · exact h3 b (List.mem_cons_of_mem _ hb)
  · rcases List.mem_cons.mp hb with rfl | hb
    · exact absurd (show (3 : Int) = 9 from q) (by decide)
    · exact h4 b (List.mem_cons_of_mem _ hb) q
  · rcases List.mem_cons.mp hb with rfl | hb
    · exact h4' (2, j, c, x, out) List.mem_cons_self (show ¬ (2 : Int) = 0 by decide)
    · exact h4' b (List.mem_cons_of_mem _ hb) q
theorem fi_se {z : ZS} {j i : Nat} {v : Int} : fiS (seM i (sBd v) z) j = fiS z j := by
  unfold fiS
  show (if j = i then _ else _ : SrZ).1.2.1 = _
  split
  · next h => rw [h]; rfl
  · rfl
theorem fi_bd {z : ZS} {j jb : Nat} : fiS (bdM j jb z) j = fiS z j := fi_se
theorem ar_id {y : ZS} {j : Int} (h : y.2.2.2.1.2 = j) : arM j y = y := by
  unfold arM
  rw [← h]
/-- catch -/
theorem BZ.ca {N : Int → Int} {σ τ : RS} {z : ZS} {F K : List FrZ} {a t : Int32} {k : Nat} (h : BZ N σ z F K) (e : EmZ σ 51 a 0 t t t τ) (l : aL τ = aL σ) (ha : a.toInt = (k : Int)) (ht : t.toInt = zAt z.1) (hk : ∀ b ∈ F, b.2.2.1.2 < k) : BZ N τ (caM k z) F K := by
  have p : PcM id τ (caM k z) := h.1.1.co (x := (51, (k : Int), 0, zAt z.1, -2 - ((zVs z.1).length : Int))) e rfl ha rfl ht
  have w := WeR.em e.1 l
  refine ⟨h.1.g (z' := caM k z) p (List.suffix_cons _ _) (SgZ.e rfl) rfl w.z, ⟨h.2.1.1.w w rfl, h.2.1.2.1.w w, h.2.1.2.2.1.w h.1.ac w (SgZ.e rfl), fun b hb h9 c x q o => ?_, h.2.1.2.2.2.2⟩, by rw [w.1.2.2.1]; exact h.2.2⟩
  have q : itN (.inr (51, (k : Int), 0, zAt z.1, -2 - ((zVs z.1).length : Int)) :: z.2.1) c = some (.inr x) := q
  rw [itN] at q
  by_cases e : c = z.2.1.length
  · rw [if_pos e] at q
    cases q
    intro f
    have f : (k : Int) = (b.2.2.1.2 : Int) := f
    have := hk b hb
    omega
  · rw [if_neg e] at q
    exact h.2.1.2.2.2.1 b hb h9 c x q o
theorem FtZ.lt : ∀ {F : List FrZ} {m : Nat}, FtZ F m → ∀ b ∈ F, b.2.2.1.2 < m := by
  intro F
  induction F with
  | nil => intro m _ b hb; cases hb
  | cons a F ih =>
    intro m h b hb
    rcases List.mem_cons.mp hb with rfl | hb
    · exact h.1
    · have := ih h.2.2 b hb
      have := h.1
      omega
