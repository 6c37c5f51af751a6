/-! leaving what stands open -/
theorem BL.down {σ X : RS} {i h t m : Nat} (hB : BL σ X i h t m) (ht : 0 < t) : ∃ i' h' t' m' l c q u, i' < i ∧ BL σ X i' h' t' m' ∧ (c ≤ nT (gI σ 18) ∧ st σ c = some (l, m')) ∧ trs l = q :: u ∧ TT σ X (i' + 1) h' m' (q :: u) t' t := by
  induction i generalizing h t m with
  | zero =>
    obtain ⟨⟨g1, g2⟩, -⟩ := hB
    omega
  | succ i ih =>
    obtain ⟨⟨g1, g2⟩, h', t', m', l, x, r, g3, g4, g5, g6, g7, g8⟩ := hB
    cases e : trs l with
    | nil =>
      rw [e] at g8
      have g8 : t = t' := g8
      obtain ⟨i', h2, t2, m2, l2, c2, q, u, a1, a2⟩ := ih g3 (by omega)
      rw [g8]
      exact ⟨i', h2, t2, m2, l2, c2, q, u, by omega, a2⟩
    | cons q u =>
      rw [e] at g8
      exact ⟨i, h', t', m', l, _, q, u, by omega, g3, ⟨g4.2, g5.1⟩, e, g8⟩
def LW (σ X : RS) (how to : Int32) : Prop := Ry σ X ∧ (gI X 142 = gI σ 142 ∧ gI X 129 = gI σ 129 ∧ gI X 141 = gI σ 141 ∧ 1 ≤ gI σ 141) ∧ ∃ i h t0 m l w u, (0 ≤ gI X 129 ∧ nT (gI X 129) = i + 1 ∧ i < 30) ∧ BL σ X i h t0 m ∧ (nT (gI σ 141) - 1 < nT (gI σ 18) ∧ ¬ (nT (aI σ 19 (nT (gI σ 141) - 1)) = 26 ∨ nT (aI σ 19 (nT (gI σ 141) - 1)) = 32) ∧ st σ (nT (gI σ 141) - 1) = some (l, m)) ∧ trs l = w ++ u ∧ (0 ≤ gI X 128 ∧ nT (gI X 128) = h) ∧ (0 ≤ gI X 133 ∧ TT σ X (i + 1) h m u t0 (nT (gI X 133))) ∧ ((how = 1 ∧ GT σ m to u ∧ vp σ (nT (gI σ 141) - 1) < vp σ (nT to)) ∨ how = 2)
def LT (σ X : RS) (how to : Int32) (k : Nat) : Prop := Ry σ X ∧ (gI X 142 = gI σ 142 ∧ gI X 129 = gI σ 129 ∧ gI X 141 = gI σ 141 ∧ 1 ≤ gI σ 141) ∧ ∃ i h t0 m l1 x r w t', (0 ≤ gI X 129 ∧ nT (gI X 129) = i + 1 ∧ i < 30) ∧ BL σ X i h t0 m ∧ (nT (gI σ 141) - 1 < nT (gI σ 18) ∧ ¬ (nT (aI σ 19 (nT (gI σ 141) - 1)) = 26 ∨ nT (aI σ 19 (nT (gI σ 141) - 1)) = 32) ∧ st σ (nT (gI σ 141) - 1) = some (l1 ++ (x, k) :: r, m)) ∧ (50 ≤ x ∧ x ≤ 52) ∧ trs l1 = w ∧ (0 ≤ gI X 128 ∧ nT (gI X 128) = h) ∧ (0 ≤ gI X 133 ∧ nT (gI X 133) = t' + 1) ∧ (TT σ X (i + 1) h m (trs r) t0 t' ∧ YE σ X (i + 1) h m (x, k) (trs r) t') ∧ ((how = 1 ∧ GT σ m to ((x, k) :: trs r) ∧ vp σ (nT (gI σ 141) - 1) < vp σ (nT to)) ∨ how = 2)
theorem LW.bd {σ X : RS} {how to : Int32} (hG : RG σ) (h : LW σ X how to) : (1 ≤ gI X 129 ∧ gI X 129 ≤ 30) ∧ (0 ≤ gI X 133 ∧ gI X 133 ≤ 1200) := by
  obtain ⟨-, -, i, b, t0, m, l, w, u, ⟨a1, a2, a3⟩, hB, ⟨s1, s2, s3⟩, e, -, ⟨d1, d2⟩, -⟩ := h
  have b1 := (hB.le hG).2.1
  have b2 := d2.le
  have b3 := trs_nl l
  have b5 : nl l ≤ 40 := by
    obtain ⟨f, kk, j, hp⟩ := hG.k
    exact ((hp.2.2.2.2.2.2.2.2.2.1.2 _ (Nat.le_of_lt s1)).2 _ s3).1
  rw [e, List.length_append] at b3
  exact ⟨⟨(nle (by decide) a1).mpr (by rw [a2]; show 1 ≤ i + 1; omega), (nle a1 (by decide)).mpr (by rw [a2]; show i + 1 ≤ 30; omega)⟩, d1, (nle d1 (by decide)).mpr (by show _ ≤ 1200; omega)⟩
/-- a try of this call stands on top -/
theorem LW.top {σ X : RS} {how to : Int32} (h : LW σ X how to) (h0 : 0 < gI X 133) (hc : aI X 135 (nT (gI X 133 - 1)) = gI X 129) : LT σ X how to (nT (aI X 134 (nT (gI X 133 - 1)))) := by
  obtain ⟨f1, f2, i, b, t0, m, l, w, u, ⟨a1, a2, a3⟩, hB, ⟨s1, s2, s3⟩, e, c1, ⟨d1, d2⟩, j1⟩ := h
  have e1 : nT (gI X 133) = nT (gI X 133 - 1) + 1 := nT_sub h0
  cases u with
  | nil =>
    exfalso
    have d2 : nT (gI X 133) = t0 := d2
    obtain ⟨i', h', t', m', l', c', q, u, g1, g2, g3, g4, t2, g5, g6, g7⟩ := hB.down (by omega)
    have e2 : t2 = nT (gI X 133 - 1) := by omega
    rw [e2] at g7
    have g8 := g7.2.1.2
    rw [hc, a2] at g8
    omega
  | cons q u =>
    obtain ⟨x, k⟩ := q
    obtain ⟨hx, l1, r, g1, g2, g3⟩ := trs_split e
    subst g1
    subst g3
    obtain ⟨t', g5, g6, g7⟩ := d2
    have e2 : t' = nT (gI X 133 - 1) := by omega
    have e3 : nT (aI X 134 (nT (gI X 133 - 1))) = k := by rw [← e2]; exact g7.1.2
    rw [e3]
    exact ⟨f1, f2, i, b, t0, m, l1, x, r, w, t', ⟨a1, a2, a3⟩, hB, ⟨s1, s2, s3⟩, hx, g2, c1, ⟨d1, g5⟩, ⟨g6, g7⟩, j1⟩
/-- none stands there -/
theorem LW.bot {σ X : RS} {how to : Int32} (h : LW σ X how to) (hn : ¬ 0 < gI X 133 ∨ ¬ aI X 135 (nT (gI X 133 - 1)) = gI X 129) : ∃ i b t0 m, (0 ≤ gI X 129 ∧ nT (gI X 129) = i + 1 ∧ i < 30) ∧ BL σ X i b t0 m ∧ (0 ≤ gI X 128 ∧ nT (gI X 128) = b) ∧ (0 ≤ gI X 133 ∧ nT (gI X 133) = t0) ∧ ((how = 1 ∧ GT σ m to [] ∧ vp σ (nT (gI σ 141) - 1) < vp σ (nT to)) ∨ how = 2) := by
  obtain ⟨f1, f2, i, b, t0, m, l, w, u, ⟨a1, a2, a3⟩, hB, ⟨s1, s2, s3⟩, e, c1, ⟨d1, d2⟩, j1⟩ := h
  cases u with
  | nil => exact ⟨i, b, t0, m, ⟨a1, a2, a3⟩, hB, c1, ⟨d1, d2⟩, j1⟩
  | cons q u =>
    exfalso
    obtain ⟨t', g5, g6, g7⟩ := d2
    have h0 : 0 < gI X 133 := (nlt (by decide) d1).mpr (by rw [g5]; show 0 < t' + 1; omega)
    have e1 : nT (gI X 133) = nT (gI X 133 - 1) + 1 := nT_sub h0
    have e2 : t' = nT (gI X 133 - 1) := by omega
    rcases hn with q | q
    · exact q h0
    · refine q ?_
      rw [← e2]
      exact nT_eq g7.2.1.1 a1 (by rw [g7.2.1.2, a2])
theorem GT.cs {σ : RS} {m : Nat} {to : Int32} {q : Nat × Nat} {u : List (Nat × Nat)} (h : GT σ m to (q :: u)) : ((aI σ 51 q.2 ≤ to ∧ to ≤ aI σ 55 q.2) ∧ ∃ l, (nT to ≤ nT (gI σ 18) ∧ zt σ (nT to) = some [] ∧ st σ (nT to) = some (l, m)) ∧ trs l = q :: u) ∨ (¬ (aI σ 51 q.2 ≤ to ∧ to ≤ aI σ 55 q.2) ∧ GT σ m to u ∧ 5000 * nT (aI σ 55 q.2) < vp σ (nT to)) := by
  obtain ⟨h0, l, w, h1, h2, h3, h4⟩ := h
  cases w with
  | nil => exact Or.inl ⟨h4 q u h2.symm, l, h1, h2.symm⟩
  | cons a w =>
    obtain ⟨e1, e2⟩ := List.cons.inj h2
    subst e1
    exact Or.inr ⟨(h3 q List.mem_cons_self).1, ⟨h0, l, w, h1, e2, fun p hp => h3 p (List.mem_cons_of_mem _ hp), h4⟩, (h3 q List.mem_cons_self).2⟩
/-- it holds the target -/
theorem LT.in_ {σ X Y : RS} {how to : Int32} {k : Nat} (h : LT σ X how to k) (h1 : how = 1) (hi : aI σ 51 k ≤ to ∧ to ≤ aI σ 55 k) (e : Y = sI X 141 to) : RA σ Y ∧ PG σ σ Y := by
  obtain ⟨f1, ⟨f2, f3, f4, f5⟩, i, b, t0, m, l1, x, r, w, t', ⟨a1, a2, a3⟩, hB, ⟨s1, s2, s3⟩, hx, e1, ⟨c1, c2⟩, ⟨d1, d2⟩, ⟨g1, g2⟩, j1⟩ := h
  have j1 : GT σ m to ((x, k) :: trs r) ∧ vp σ (nT (gI σ 141) - 1) < vp σ (nT to) := by
    rcases j1 with q | q
    · exact q.2
    · rw [h1] at q; exact absurd q (by decide)
  have h0 := j1.1.1
  rcases j1.1.cs with ⟨-, l, q1, q2⟩ | ⟨q, -⟩
  · subst e
    refine ⟨⟨i, b, t0, m, l, [], ⟨a1, a2, a3⟩, hB.eq (fun _ _ => ⟨rfl, rfl⟩) (fun _ _ _ _ _ => rfl), ⟨⟨h0, q1.1⟩, q1.2.2, q1.2.1⟩, ⟨c1, c2⟩, d1, ?_⟩, Or.inr ⟨by show nT (gI X 129) = _; rw [f3], j1.2⟩⟩
    rw [q2]
    exact ⟨t', d2, g1.eq (fun _ _ _ _ _ => rfl), g2⟩
  · exact absurd hi q
/-- its finally is run first -/
theorem LT.fin {σ X Y : RS} {how to : Int32} {k : Nat} (hG : RG σ) (h : LT σ X how to k) (hn : ¬ (how = 1 ∧ aI σ 51 k ≤ to ∧ to ≤ aI σ 55 k)) (hs : aI X 137 (nT (gI X 133 - 1)) < 2) (hf : 0 ≤ aI σ 58 k)
    (y128 : gI Y 128 = aI X 136 (nT (gI X 133 - 1))) (y129 : gI Y 129 = gI X 129) (y133 : gI Y 133 = gI X 133) (y141 : gI Y 141 = aI σ 58 k + 1) (y131 : aI Y 131 = aI X 131) (y132 : aI Y 132 = aI X 132) (y134 : aI Y 134 = aI X 134) (y135 : aI Y 135 = aI X 135) (y136 : aI Y 136 = aI X 136) (y137 : aI Y 137 = upd (aI X 137) (nT (gI X 133 - 1)) 2) (y138 : aI Y 138 = upd (aI X 138) (nT (gI X 133 - 1)) how) (y139 : aI Y 139 = upd (aI X 139) (nT (gI X 133 - 1)) to) : RA σ Y ∧ PG σ σ Y := by
  obtain ⟨f1, ⟨f2, f3, f4, f5⟩, i, b, t0, m, l1, x, r, w, t', ⟨a1, a2, a3⟩, hB, ⟨s1, s2, s3⟩, hx, e1, ⟨c1, c2⟩, ⟨d1, d2⟩, ⟨g1, g2⟩, j1⟩ := h
  have h0 : 0 < gI X 133 := (nlt (by decide) d1).mpr (by rw [d2]; show 0 < t' + 1; omega)
  have ey : nT (gI X 133 - 1) = t' := by have := nT_sub h0; omega
  rw [ey] at hs y128 y137 y138 y139
  have hx2 : 50 ≤ x ∧ x < 52 := by
    have z := g2.2.2.2.1
    have q := nT_lt z.1 hs
    have q : nT (aI X 137 t') < 2 := q
    have z2 : nT (aI X 137 t') + 50 = x := z.2
    omega
  obtain ⟨⟨p1, p2⟩, p3, p4, p5, p6⟩ := hG.fin (Nat.le_of_lt s1) s3 hx2 hf
  have hz := hG.k.sz.2
  have hk3 : aI σ 58 k < 3020 := (nlt hf (by decide)).mpr (by show _ < 3020; omega)
  have en : nT (aI σ 58 k + 1) = nT (aI σ 58 k) + 1 := nT_add hf (by lia)
  have hb := hB.le hG
  have hY : Yq X Y t' := by
    intro s hst q q1 q2
    have hq : q = 134 ∨ q = 135 ∨ q = 136 ∨ q = 137 ∨ q = 138 ∨ q = 139 := by omega
    rcases hq with rfl | rfl | rfl | rfl | rfl | rfl
    · rw [y134]
    · rw [y135]
    · rw [y136]
    · rw [y137, upd_ne (by omega)]
    · rw [y138, upd_ne (by omega)]
    · rw [y139, upd_ne (by omega)]
  have hle := g1.le
  refine ⟨⟨i, b, t0, m, (52, k) :: r, [], ⟨by rw [y129]; exact a1, by rw [y129]; exact a2, a3⟩, hB.eq (fun s _ => ⟨by rw [y131], by rw [y132]⟩) (fun s hst => hY s (by omega)), ⟨⟨by rw [y141]; lia, by rw [y141, en]; exact p2⟩, by rw [y141, en]; exact p3, by rw [y141, en]; exact p4⟩, ⟨by rw [y128]; exact g2.2.2.1.1, by rw [y128]; exact g2.2.2.1.2⟩, by rw [y133]; exact d1, ?_⟩, Or.inr ⟨by rw [y129, f3], by rw [y141, en]; exact p6 s2⟩⟩
  rw [trs_in (by omega), y133]
  refine ⟨t', d2, g1.eq hY, ?_⟩
  unfold YE
  rw [y134, y135, y136, y137, y138, y139, upd_eq, upd_eq, upd_eq]
  refine ⟨g2.1, g2.2.1, g2.2.2.1, ⟨by decide, rfl⟩, fun _ => ?_⟩
  rcases j1 with ⟨q1, q2, q3⟩ | q1
  · refine ⟨Or.inr (Or.inl q1), fun _ => ?_⟩
    rcases q2.cs with ⟨q4, -⟩ | ⟨-, q4⟩
    · exact absurd ⟨q1, q4⟩ hn
    · exact q4
  · refine ⟨Or.inr (Or.inr (Or.inl q1)), fun z => ?_⟩
    rw [q1] at z
    exact absurd z (by decide)
/-- the next one -/
theorem LT.nx {σ X Y : RS} {how to : Int32} {k : Nat} (h : LT σ X how to k) (hn : ¬ (how = 1 ∧ aI σ 51 k ≤ to ∧ to ≤ aI σ 55 k)) (e : Y = sI X 133 (gI X 133 - 1)) : LW σ Y how to ∧ nT (gI Y 133) < nT (gI X 133) := by
  obtain ⟨f1, ⟨f2, f3, f4, f5⟩, i, b, t0, m, l1, x, r, w, t', ⟨a1, a2, a3⟩, hB, ⟨s1, s2, s3⟩, hx, e1, ⟨c1, c2⟩, ⟨d1, d2⟩, ⟨g1, g2⟩, j1⟩ := h
  have h0 : 0 < gI X 133 := (nlt (by decide) d1).mpr (by rw [d2]; show 0 < t' + 1; omega)
  have ey : nT (gI X 133 - 1) = t' := by have := nT_sub h0; omega
  have e33 : gI Y 133 = gI X 133 - 1 := by rw [e]; rfl
  refine ⟨⟨by rw [e]; exact f1.i rfl, by rw [e]; exact ⟨f2, f3, f4, f5⟩, i, b, t0, m, l1 ++ (x, k) :: r, w ++ [(x, k)], trs r, by rw [e]; exact ⟨a1, a2, a3⟩, by rw [e]; exact hB.eq (fun _ _ => ⟨rfl, rfl⟩) (fun _ _ _ _ _ => rfl), ⟨s1, s2, s3⟩, by rw [trs_app, trs_in hx, e1, List.append_assoc]; rfl, by rw [e]; exact ⟨c1, c2⟩, ⟨by rw [e33]; lia, by rw [e33, ey, e]; exact g1.eq (fun _ _ _ _ _ => rfl)⟩, ?_⟩, by rw [e33, ey]; omega⟩
  rcases j1 with ⟨q1, q2, q3⟩ | q1
  · rcases q2.cs with ⟨q4, -⟩ | ⟨-, q4⟩
    · exact absurd ⟨q1, q4⟩ hn
    · exact Or.inl ⟨q1, q4.1, q3⟩
  · exact Or.inr q1
