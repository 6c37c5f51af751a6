/-! what reading leaves behind of tokens and methods; literals -/
theorem J4.v4 {c σ : RS} (h : J4 c σ) : V4R σ := by
  obtain ⟨_, ⟨v1, v2, v3⟩, _⟩ := h
  have e36 : ((nT (gI σ 36) : Nat) : Int) = (gI σ 36).toInt := Int.toNat_of_nonneg v1.1
  have e42 : ((nT (gI σ 42) : Nat) : Int) = (gI σ 42).toInt := Int.toNat_of_nonneg v2.1
  intro m hm
  obtain ⟨⟨a, b, c⟩, d⟩ := v3 m (by omega)
  exact ⟨⟨a, b⟩, fun k hk => d k (by omega)⟩
theorem J4.h4 {c σ : RS} (h : J4 c σ) : (gI σ 18).toInt ≤ 4000 := h.2.2.2
theorem WsT.fr {N : Int → Int} {c Y : RS} {s t : SpC} (h : WsT N c s) (f : FrP c Y) (e : zK t = zK s) : WsT N Y t := by
  obtain ⟨f2, fl, f3, f4, f5, f6, f8, f10, f11⟩ := f
  unfold WsT
  rw [f2, fl, f3, f6, f11, e]
  exact h
theorem WoK.fr {N : Int → Int} {c Y : RS} {Ko Ki : Int} (h : WoK N c Ko Ki) (f : FrP c Y) : WoK N Y Ko Ki := by
  obtain ⟨f2, fl, f3, f4, f5, f6, f8, f10, f11⟩ := f
  unfold WoK
  rw [f2, fl, f3, f5]
  exact h
theorem lit_nb {v sg lk : Int} (h0 : 0 ≤ v) (h1 : v < 10000000000000000000) (hs : sg = 81 ∨ sg = 82) : nbT (Int64.ofInt v) (gtT sg) lk ↔ (grY (if sg = 82 then 76 else 0) v = 2 ∨ (grY (if sg = 82 then 76 else 0) v = 1 ∧ ¬ lk = 1)) := by
  have a10 : ¬ (1 : Int32) = 2 := by decide
  have a20 : ¬ (0 : Int32) = 2 := by decide
  have a01 : ¬ (0 : Int32) = 1 := by decide
  have a21 : ¬ (2 : Int32) = 1 := by decide
  unfold nbT
  rcases hs with rfl | rfl
  · have g : (gtT 81).toInt = 2147483647 := by decide
    have g1 : (gtT 81 + 1).toInt = 2147483648 := by decide
    rw [← Int64.toInt_inj, g, g1]
    unfold grY
    rw [if_neg (show ¬ ((if (81 : Int) = 82 then (76 : Int) else 0) = 76) by decide)]
    rcases i64_v h0 h1 with ⟨e, b⟩ | ⟨e, b⟩
    · rw [e]
      by_cases c : 2147483648 < v
      · rw [if_pos c]
        exact ⟨fun _ => Or.inl rfl, fun _ => ⟨by omega, by omega⟩⟩
      · rw [if_neg c]
        by_cases d : v = 2147483648
        · rw [if_pos d]
          exact ⟨fun q => Or.inr ⟨rfl, fun k => q.2 ⟨d, k⟩⟩, fun q => ⟨by omega, fun k => (q.elim (fun z => absurd z a10) (fun z => z.2 k.2))⟩⟩
        · rw [if_neg d]
          exact ⟨fun q => by omega, fun q => q.elim (fun z => absurd z a20) (fun z => absurd z.1 a01)⟩
    · rw [e, if_pos (show 2147483648 < v by omega)]
      exact ⟨fun _ => Or.inl rfl, fun _ => ⟨by omega, by omega⟩⟩
  · have g : (gtT 82).toInt = 9223372036854775807 := by decide
    have g1 : (gtT 82 + 1).toInt = -9223372036854775808 := by decide
    rw [← Int64.toInt_inj, g, g1]
    unfold grY
    rw [if_pos (show (if (82 : Int) = 82 then (76 : Int) else 0) = 76 by decide)]
    rcases i64_v h0 h1 with ⟨e, b⟩ | ⟨e, b⟩
    · rw [e, if_neg (show ¬ 9223372036854775808 < v by omega), if_neg (show ¬ v = 9223372036854775808 by omega)]
      exact ⟨fun q => by omega, fun q => q.elim (fun z => absurd z a20) (fun z => absurd z.1 a01)⟩
    · rw [e]
      by_cases c : 9223372036854775808 < v
      · rw [if_pos c]
        exact ⟨fun _ => Or.inl rfl, fun _ => ⟨by omega, by omega⟩⟩
      · have d : v = 9223372036854775808 := by omega
        rw [if_neg c, if_pos d]
        exact ⟨fun q => Or.inr ⟨rfl, fun k => q.2 ⟨by omega, k⟩⟩, fun q => ⟨by omega, fun k => (q.elim (fun z => absurd z a10) (fun z => z.2 k.2))⟩⟩
theorem ch_nr : ∀ k : Fin 127, nrT 2 (Int64.ofInt (k.val : Int)) = Int64.ofInt (k.val : Int) := by decide +kernel
section
variable {N : Int → Int} {σ : RS} {z : ZS} {C : CxT} {x : XrZ} {l : List ItZ}
/-- a literal's token -/
theorem lit_tk (R : RdW N σ z) (hx : RpX (zK z.1) (zAt z.1) x) (k : x.1.1 ≤ 1) : (0 ≤ x.2.1.1 ∧ x.2.1.1.toNat < nT (gI σ 2) ∧ x.2.1.1.toNat ≤ 500) := by
  have h0 := hx.2.2.1 (by omega)
  obtain ⟨⟨_, h1, _⟩, _⟩ := hx.2.2.2.2 k
  obtain ⟨_, ⟨⟨_, ⟨a1, a2, a3, a4⟩, a5, _⟩, _⟩, _⟩ := R
  have n14 := (nt_pos a2).1
  have a3 := Int32.lt_iff_toInt_lt.mp a3
  have a4 := Int32.le_iff_toInt_le.mp a4
  have a4 : (gI σ 14).toInt ≤ 500 := a4
  have p2 : 0 ≤ gI σ 2 := Int32.le_iff_toInt_le.mpr (by show (0 : Int) ≤ _; omega)
  have n2 := (nt_pos p2).1
  exact ⟨h0, by omega, by omega⟩
theorem t0_at {xs : Nat → XrZ} {i : Nat} (h : xs i = x) : (t0T N xs).1 i = (tyX x, coX x, Int64.ofInt (vaX N x), if x.1.1 = 10 then -1 else 0) := by
  show (tyX (xs i), coX (xs i), Int64.ofInt (vaX N (xs i)), if (xs i).1.1 = 10 then -1 else 0) = _
  rw [h]
theorem lit_of (R : RdW N σ z) (W : WsT N σ z.1) (hc : C.1 = N) (hx : (.inl x :: l) <:+ z.2.1) (hp : RpX (zK z.1) (zAt z.1) x) (k : x.1.1 ≤ 1) {Y : RS} {c : Int32} (hY : JfR (sI σ 68 1) Y) (hl : c.toInt = (l.length : Int)) :
    (((aI Y 3 (aI Y 22 c.toNatClampNeg).toNatClampNeg = 2 ∧ (aI Y 11 (aI Y 22 c.toNatClampNeg).toNatClampNeg = 2 ∨ (aI Y 11 (aI Y 22 c.toNatClampNeg).toNatClampNeg = 1 ∧ aI Y 21 c.toNatClampNeg = 0))) ↔ exT C (t0T C.1 (xgZ z.2.1)) (xcZ l) x = none) ∧ ∀ e, exT C (t0T C.1 (xgZ z.2.1)) (xcZ l) x = some e → (aI Y 20 c.toNatClampNeg).toInt = e.1 ∧ ¬ e.2.1 = 0 ∧ e.2.2.1 = (if aI Y 3 (aI Y 22 c.toNatClampNeg).toNatClampNeg = 4 then (if aI Y 6 (aI Y 22 c.toNatClampNeg).toNatClampNeg = 22 then 1 else 0) else if aI Y 20 c.toNatClampNeg = 3 then (aL Y 9 (aI Y 22 c.toNatClampNeg).toNatClampNeg).toInt32.toInt64 else aL Y 9 (aI Y 22 c.toNatClampNeg).toNatClampNeg)) := by
  have aa : ∀ k, bJ k = false → aI Y k = aI σ k := fun k hk => hY.2.2.1 k hk
  have a9 : aL Y 9 = aL σ 9 := hY.2.2.2 9 (by decide) (by decide) (by decide) (by decide)
  have cn : c.toNatClampNeg = l.length := nT_x hl
  obtain ⟨h0, h2, h5⟩ := lit_tk R hp k
  obtain ⟨⟨f1, f2, f3⟩, ⟨k0, k1⟩, sg⟩ := hp.2.2.2.2 k
  have cc : ccZ σ l.length x := cc_of R hx
  obtain ⟨_, _, ctk, clit, _⟩ := cc
  have ctk := ctk (by omega)
  obtain ⟨cty, cneg⟩ := clit k
  have tn : (aI σ 22 l.length).toNatClampNeg = x.2.1.1.toNat := by
    show (aI σ 22 l.length).toInt.toNat = _
    rw [ctk]
  have w := W x.2.1.1.toNat h2 h5
  rw [Int.toNat_of_nonneg h0, f3] at w
  rw [aa 3 rfl, aa 11 rfl, aa 6 rfl, aa 20 rfl, aa 21 rfl, aa 22 rfl, a9, cn, tn, hc]
  have tz := t0_at (N := N) (xs := xgZ z.2.1) (i := xcZ l) (xg_at hx)
  have ty3 : aI σ 20 l.length = 3 ↔ ltyZ x.1.2.1 = 3 := by
    rw [← cty]
    exact (Int32.toInt_inj (x := aI σ 20 l.length) (y := 3)).symm
  by_cases kz : x.1.1 = 0
  · have sg2 := k1.mp kz
    obtain ⟨v, ⟨v0, v1⟩, vN, v9, v11, v3⟩ := w.1 sg2
    have va : Int64.ofInt (vaX N x) = Int64.ofInt v := by
      unfold vaX
      rw [if_pos (Or.inl kz), if_neg (by omega), if_neg (by omega), f1, vN, Int64.ofInt_toInt]
    have co : coX x = 1 := if_pos (Or.inl kz)
    rw [ex_0 kz, tz, va, co, v11, v3]
    unfold x0T
    show ((((2 : Int32) = 2 ∧ _) ↔ (if nbT (Int64.ofInt v) (gtT x.1.2.1) x.2.1.2.1 then none else some (nyT x.1.2.1, (1 : Int), nrT (nyT x.1.2.1) (Int64.ofInt v), _)) = none) ∧ ∀ e, (if nbT (Int64.ofInt v) (gtT x.1.2.1) x.2.1.2.1 then none else some (nyT x.1.2.1, (1 : Int), nrT (nyT x.1.2.1) (Int64.ofInt v), _)) = some e → _)
    have nb := lit_nb (lk := x.2.1.2.1) v0 v1 sg2
    have ng : aI σ 21 l.length = 0 ↔ ¬ x.2.1.2.1 = 1 := by
      have q := cneg kz
      by_cases u : x.2.1.2.1 = 1
      · rw [if_pos u] at q
        exact ⟨fun z => (by rw [z] at q; cases q), fun z => absurd u z⟩
      · rw [if_neg u] at q
        exact ⟨fun _ => u, fun _ => i32_lit q⟩
    rw [ng]
    by_cases nbc : nbT (Int64.ofInt v) (gtT x.1.2.1) x.2.1.2.1
    · rw [if_pos nbc]
      exact ⟨⟨fun _ => rfl, fun _ => ⟨rfl, nb.mp nbc⟩⟩, fun e he => by cases he⟩
    · rw [if_neg nbc]
      refine ⟨⟨fun q => absurd (nb.mpr q.2) nbc, fun q => by cases q⟩, fun e he => ?_⟩
      obtain rfl := Option.some.inj he
      refine ⟨?_, by show ¬ (1 : Int) = 0; decide, ?_⟩
      · rw [cty]
        show ltyZ x.1.2.1 = nyT x.1.2.1
        rcases sg2 with q | q <;> rw [q] <;> decide
      · rw [if_neg (show ¬ (2 : Int32) = 4 by decide)]
        show nrT (nyT x.1.2.1) (Int64.ofInt v) = _
        rcases sg2 with q | q
        · rw [if_pos (ty3.mpr (by rw [q]; decide)), v9, q]
          rfl
        · rw [if_neg (fun r => absurd (ty3.mp r) (by rw [q]; decide)), v9, q]
          rfl
  · have kz1 : x.1.1 = 1 := by omega
    have sg3 : x.1.2.1 = 83 ∨ x.1.2.1 = 72 ∨ x.1.2.1 = 73 := by
      rcases sg with q | q | q
      · exact absurd (k1.mpr (Or.inl q)) kz
      · exact absurd (k1.mpr (Or.inr q)) kz
      · exact q
    have co : coX x = 1 := if_pos (Or.inr kz1)
    rw [ex_d (by omega), tz, co]
    have t2 : ¬ aI σ 3 x.2.1.1.toNat = 2 := by
      rcases sg3 with q | q
      · rw [(w.2.1 q).2.2]; decide
      · rw [(w.2.2 q).1]; decide
    refine ⟨⟨fun q => absurd q.1 t2, fun q => by cases q⟩, fun e he => ?_⟩
    obtain rfl := Option.some.inj he
    refine ⟨?_, by show ¬ (1 : Int) = 0; decide, ?_⟩
    · rw [cty]
      show ltyZ x.1.2.1 = (if x.1.1 = 1 then (if x.1.2.1 = 83 then 2 else 0) else -1)
      rw [if_pos kz1]
      rcases sg3 with q | q | q <;> rw [q] <;> decide
    · show Int64.ofInt (vaX N x) = _
      unfold vaX
      rw [if_pos (Or.inr kz1)]
      rcases sg3 with q | q | q
      · obtain ⟨_, u9, u3⟩ := w.2.1 q
        rw [if_neg (by omega), if_neg (by omega), u3, if_neg (by decide), if_neg (fun r => absurd (ty3.mp r) (by rw [q]; decide)), u9, f1]
      · obtain ⟨u3, u6⟩ := w.2.2 (Or.inl q)
        rw [q] at u6
        rw [if_pos q, u3, if_pos rfl, if_pos (i32_lit u6)]
        rfl
      · obtain ⟨u3, u6⟩ := w.2.2 (Or.inr q)
        rw [q] at u6
        rw [if_neg (by omega), if_pos q, u3, if_pos rfl, if_neg (fun r => by rw [r] at u6; cases u6)]
        rfl
/-- a literal's value is of its TYPE -/
theorem vt_1 (R : RdW N σ z) (W : WsT N σ z.1) (hx : (.inl x :: l) <:+ z.2.1) (hp : RpX (zK z.1) (zAt z.1) x) (k : x.1.1 = 1) : VaT ((t0T N (xgZ z.2.1)).1 (xcZ l)) := by
  obtain ⟨h0, h2, h5⟩ := lit_tk R hp (by omega)
  obtain ⟨⟨f1, f2, f3⟩, ⟨k0, k1⟩, sg⟩ := hp.2.2.2.2 (by omega)
  have w := W x.2.1.1.toNat h2 h5
  rw [Int.toNat_of_nonneg h0, f3] at w
  have sg3 : x.1.2.1 = 83 ∨ x.1.2.1 = 72 ∨ x.1.2.1 = 73 := by
    rcases sg with q | q | q
    · have := k1.mpr (Or.inl q); omega
    · have := k1.mpr (Or.inr q); omega
    · exact q
  rw [t0_at (N := N) (xs := xgZ z.2.1) (i := xcZ l) (xg_at hx)]
  have ht : tyX x = if x.1.2.1 = 83 then 2 else 0 := if_pos k
  have hv : vaX N x = if x.1.2.1 = 72 then 1 else if x.1.2.1 = 73 then 0 else N x.1.2.2.1 := if_pos (Or.inr k)
  unfold VaT
  show (0 ≤ tyX x ∧ tyX x ≤ 5) ∧ (_ → nrT (tyX x) (Int64.ofInt (vaX N x)) = Int64.ofInt (vaX N x) ∧ (tyX x = 0 → Int64.ofInt (vaX N x) = 0 ∨ Int64.ofInt (vaX N x) = 1))
  rw [ht, hv]
  rcases sg3 with q | q | q
  · obtain ⟨⟨b0, b1⟩, _⟩ := w.2.1 q
    rw [q, if_pos rfl, if_neg (show ¬ (83 : Int) = 72 by decide), if_neg (show ¬ (83 : Int) = 73 by decide), f1]
    have e : N x.2.1.1 = (((N x.2.1.1).toNat : Nat) : Int) := (Int.toNat_of_nonneg b0).symm
    have n := ch_nr ⟨(N x.2.1.1).toNat, by omega⟩
    rw [show (((⟨(N x.2.1.1).toNat, by omega⟩ : Fin 127).val : Nat) : Int) = N x.2.1.1 from e.symm] at n
    exact ⟨by decide, fun _ => ⟨n, fun z => absurd z (by decide)⟩⟩
  · rw [q, if_neg (show ¬ (72 : Int) = 83 by decide), if_pos rfl]
    exact ⟨by decide, fun _ => ⟨by decide, fun _ => Or.inr rfl⟩⟩
  · rw [q, if_neg (show ¬ (73 : Int) = 83 by decide), if_neg (show ¬ (73 : Int) = 72 by decide), if_pos rfl]
    exact ⟨by decide, fun _ => ⟨by decide, fun _ => Or.inl rfl⟩⟩
end
