/-! rows of instructions that are one step -/
theorem HIC.p159 {σ : CsC} {a r : Nat} {v : Int32} (h : HIC σ) (t : TyC σ a 5) (tr : TyC σ r 100) (hg : ghC σ r = 0) (h0 : 0 ≤ v.toInt) (h1 : v.toInt ≤ alC σ r) : HIC (pIC (pRC σ a 159 (some r)) a 160 v) ∧ ExC [159, 160] σ (pIC (pRC σ a 159 (some r)) a 160 v) := by
  have e1 : ExC [159, 160] σ (pRC σ a 159 (some r)) := ExC.pR (by decide) (Or.inr (by decide)) (Or.inr (Or.inl (by decide)))
  have e2 : ExC [159, 160] (pRC σ a 159 (some r)) (pIC (pRC σ a 159 (some r)) a 160 v) := ExC.pI (by decide) (Or.inr (by decide))
  have e := e1.tr e2
  refine ⟨⟨h.1.ex e (fun b h1 h2 => absurd h2 (Nat.not_lt.mpr h1)) (fun b j hb hj => ⟨?_, ?_⟩) (fun b hb => ?_), h.2.ex e (fun _ h1 h2 => absurd h2 (Nat.not_lt.mpr h1)) (by decide)⟩, e⟩
  · by_cases q : (j ≠ 160 ∨ b ≠ a)
    · exact Or.inl (fI_pI q)
    · have q1 : j = 160 := by by_cases z : j = 160; exact z; exact absurd (Or.inl z) q
      have q2 : b = a := by by_cases z : b = a; exact z; exact absurd (Or.inr z) q
      subst q1 q2
      rw [fI_pIs]
      exact Or.inr (tiC v)
  · by_cases q : (j ≠ 159 ∨ b ≠ a)
    · exact Or.inl (fR_pR q)
    · have q1 : j = 159 := by by_cases z : j = 159; exact z; exact absurd (Or.inl z) q
      have q2 : b = a := by by_cases z : b = a; exact z; exact absurd (Or.inr z) q
      subst q1 q2
      refine Or.inr ?_
      show RfC σ b 159 (fRC (pRC σ b 159 (some r)) b 159)
      rw [fR_pRs]
      exact Or.inr ⟨tr, Or.inl rfl, Or.inr hg, fun z => absurd z (by decide), fun z => absurd z (by decide)⟩
  · by_cases q : b = a
    · subst q
      refine XaC.of5 t.2.1 ⟨?_, fun r' hr' => ?_⟩
      · rw [fI_pI (Or.inl (by decide)), fI_pI (Or.inl (by decide))]
        exact h.x5 t
      · have hr' : fRC (pRC σ b 159 (some r)) b 159 = some r' := hr'
        rw [fR_pRs] at hr'
        cases hr'
        rw [fI_pIs]
        exact h1
    · exact XaC.mono h.1 e hb (fun j _ _ => fI_pI (Or.inr q)) (fun j _ _ => fR_pR (Or.inr q)) (fun _ _ _ => rfl) (fun _ => rfl) (fun _ => rfl)
theorem pIC_comm {σ : CsC} {a k j : Nat} {v w : Int32} (h : j ≠ k) : pIC (pIC σ a k v) a j w = pIC (pIC σ a j w) a k v := by
  have e : u2C (u2C σ.2.2.1.1 a k v) a j w = u2C (u2C σ.2.2.1.1 a j w) a k v := by
    funext b i
    by_cases q1 : i = j
    · subst q1
      by_cases q2 : b = a
      · subst q2; rw [u2C_eq, u2C_nk h, u2C_eq]
      · rw [u2C_na q2, u2C_na q2, u2C_na q2, u2C_na q2]
    · rw [u2C_nk q1]
      by_cases q3 : i = k
      · subst q3
        by_cases q2 : b = a
        · subst q2; rw [u2C_eq, u2C_eq]
        · rw [u2C_na q2, u2C_na q2, u2C_na q2]
      · rw [u2C_nk q3, u2C_nk q3, u2C_nk q1]
  unfold pIC
  dsimp only
  rw [e]
theorem HIC.pz {σ : CsC} {a : Nat} {u v w : Int32} (h : HIC σ) (t : TyC σ a 5) (hu : u.toInt = 0) (hv : v.toInt = 0) (hw : w.toInt = 0) : HIC (pIC (pIC (pIC σ a 165 u) a 166 v) a 167 w) ∧ ExC [165, 166, 167] σ (pIC (pIC (pIC σ a 165 u) a 166 v) a 167 w) := by
  have e1 : ExC [165, 166, 167] σ (pIC σ a 165 u) := ExC.pI (by decide) (Or.inr (by decide))
  have e2 : ExC [165, 166, 167] (pIC σ a 165 u) (pIC (pIC σ a 165 u) a 166 v) := ExC.pI (by decide) (Or.inr (by decide))
  have e3 : ExC [165, 166, 167] (pIC (pIC σ a 165 u) a 166 v) (pIC (pIC (pIC σ a 165 u) a 166 v) a 167 w) := ExC.pI (by decide) (Or.inr (by decide))
  refine ⟨?_, (e1.tr e2).tr e3⟩
  rw [pIC_comm (k := 166) (j := 167) (by decide), pIC_comm (k := 165) (j := 167) (by decide)]
  have q0 := ((h.1 a t.1).1 165 (by rw [t.2.1])).1.1
  have q0 : 0 ≤ (fIC σ a 165).toInt := q0
  have f1 : ExC [167] σ (pIC σ a 167 w) := ExC.pI (by decide) (Or.inr (by decide))
  have g1 := h.p167 t (x := fIC σ a 165) rfl (v := w) (by omega) (by omega)
  have t1 := t.x f1
  have f2 : ExC [165] (pIC σ a 167 w) (pIC (pIC σ a 167 w) a 165 u) := ExC.pI (by decide) (Or.inr (by decide))
  have g2 : HIC (pIC (pIC σ a 167 w) a 165 u) := by
    refine g1.pIx t1 (by decide) (by decide) ⟨by show (0 : Int) ≤ _; omega, by show _ ≤ (20000 : Int); omega⟩ (XaC.of5 t1.2.1 ⟨?_, fun r hr => ?_⟩)
    · rw [fI_pIs, fI_pI (Or.inl (by decide)), fI_pIs]; omega
    · rw [fI_pI (Or.inl (by decide))]; exact g1.x5i t1 hr rfl
  exact g2.pI (t1.x f2) (by decide) (by decide) ⟨by show (0 : Int) ≤ _; omega, by show _ ≤ (200 : Int); omega⟩
section KR3
variable {ct : CcC} {K : CkC} {Z : Option AvC → CsC → Prop} {is : List RI} {pc d b : Nat} {q : Int} {cs : List (Int × Nat)} {ls : ClC} {st : List AvC} {σ : CsC}
theorem k_x307 {j1 j2 j3 d1 d2 d3 d4 d5 d6 d7 b5 a r n : Nat} {q1 q2 q3 q4 q5 q7 : Int} {s1 s2 s3 s4 s5 s6 s7 : List (Int × Nat)} {x : Int32} (l0 : lkC ls 0 = some (.inr (.inr (some a)))) (l2 : lkC ls 2 = some (.inl x)) (l1 : lkC ls 1 = some (.inr (.inr (some r)))) (h8 : csC st ≤ 6) (hI : HIC σ) (t : TyC σ a 10) (tr : TyC σ r 101) (hn : alC σ r = n) (hn2 : n < 2147483648) (hx : 0 ≤ x.toInt) (h : ∀ τ, HIC τ → ExC [307, 308] σ τ → (fIC τ a 308).toInt ≤ x.toInt → cwpC ct K Z is (pc + 3 + 1 + 1 + 1 + 1 + 3 + 3) ls st τ) :
    cwpC ct K Z ((.putfield j1, d1, q1, 307, s1) :: (.aload_n 0, d2, q2, 0, s2) :: (.iload_n 2, d3, q3, 2, s3) :: (.aload_n 1, d4, q4, 1, s4) :: (.arraylength, d5, q5, b5, s5) :: (.invokestatic j2, d6, 2, 9996, s6) :: (.putfield j3, d7, q7, 308, s7) :: is) pc ls (.inr (.inr (some r)) :: .inr (.inr (some a)) :: st) σ := by
  refine ⟨a, rfl, kgCob (k := 307) (c := 10) (by decide) t, (show fkC 307 = 3 by decide), ?_⟩
  have e1 : ExC [307] σ (pRC σ a 307 (some r)) := ExC.pR (by decide) (Or.inr (by decide)) (Or.inr (Or.inl (by decide)))
  refine k_aload_n (v := some a) l0 (k_iload_n (v := x) l2 (k_aload_n (v := some r) l1 (k_alen (tr.x e1) (by decide) (by decide) ((tr.al e1).trans hn) hn2 (fun y hy => ?_))))
  refine k_mmin (by show csC st + 1 ≤ 8; omega) (fun z z1 z2 z3 => ?_)
  have hz := hI.p307 t tr (v := z) (by omega) (by omega)
  exact ⟨a, rfl, kgCob (k := 308) (c := 10) (by decide) (t.x e1), Or.inl (show fkC 308 = 0 by decide), h _ hz.1 hz.2 (by rw [fI_pIs]; exact z1)⟩
theorem k_x159 {j1 j2 j3 d1 d2 d3 d4 d5 d6 d7 b5 a r n : Nat} {q1 q2 q3 q4 q5 q7 : Int} {s1 s2 s3 s4 s5 s6 s7 : List (Int × Nat)} {x : Int32} (l0 : lkC ls 0 = some (.inr (.inr (some a)))) (l2 : lkC ls 2 = some (.inl x)) (l1 : lkC ls 1 = some (.inr (.inr (some r)))) (h8 : csC st ≤ 6) (hI : HIC σ) (t : TyC σ a 5) (tr : TyC σ r 100) (hg : ghC σ r = 0) (hn : alC σ r = n) (hn2 : n < 2147483648) (hx : 0 ≤ x.toInt) (h : ∀ τ, HIC τ → ExC [159, 160] σ τ → (fIC τ a 160).toInt ≤ x.toInt → cwpC ct K Z is (pc + 3 + 1 + 1 + 1 + 1 + 3 + 3) ls st τ) :
    cwpC ct K Z ((.putfield j1, d1, q1, 159, s1) :: (.aload_n 0, d2, q2, 0, s2) :: (.iload_n 2, d3, q3, 2, s3) :: (.aload_n 1, d4, q4, 1, s4) :: (.arraylength, d5, q5, b5, s5) :: (.invokestatic j2, d6, 2, 9996, s6) :: (.putfield j3, d7, q7, 160, s7) :: is) pc ls (.inr (.inr (some r)) :: .inr (.inr (some a)) :: st) σ := by
  refine ⟨a, rfl, kgCob (k := 159) (c := 5) (by decide) t, (show fkC 159 = 3 by decide), ?_⟩
  have e1 : ExC [159] σ (pRC σ a 159 (some r)) := ExC.pR (by decide) (Or.inr (by decide)) (Or.inr (Or.inl (by decide)))
  refine k_aload_n (v := some a) l0 (k_iload_n (v := x) l2 (k_aload_n (v := some r) l1 (k_alen (tr.x e1) (by decide) (by decide) ((tr.al e1).trans hn) hn2 (fun y hy => ?_))))
  refine k_mmin (by show csC st + 1 ≤ 8; omega) (fun z z1 z2 z3 => ?_)
  have hz := hI.p159 t tr hg (v := z) (by omega) (by omega)
  exact ⟨a, rfl, kgCob (k := 160) (c := 5) (by decide) (t.x e1), Or.inl (show fkC 160 = 0 by decide), h _ hz.1 hz.2 (by rw [fI_pIs]; exact z1)⟩
theorem k_z165 {j1 j2 j3 d1 d2 d3 d4 d5 d6 d7 b3 b6 a : Nat} {q1 q2 q3 q4 q5 q6 q7 : Int} {s1 s2 s3 s4 s5 s6 s7 : List (Int × Nat)} {u : Int32} (l0 : lkC ls 0 = some (.inr (.inr (some a)))) (hI : HIC σ) (t : TyC σ a 5) (hu : u.toInt = 0) (h : ∀ τ, HIC τ → ExC [165, 166, 167] σ τ → cwpC ct K Z is (pc + 3 + 1 + 1 + 3 + 1 + 1 + 3) ls st τ) :
    cwpC ct K Z ((.putfield j1, d1, q1, 165, s1) :: (.aload_n 0, d2, q2, 0, s2) :: (.iconst 0, d3, q3, b3, s3) :: (.putfield j2, d4, q4, 166, s4) :: (.aload_n 0, d5, q5, 0, s5) :: (.iconst 0, d6, q6, b6, s6) :: (.putfield j3, d7, q7, 167, s7) :: is) pc ls (.inl u :: .inr (.inr (some a)) :: st) σ := by
  refine ⟨a, rfl, kgCob (k := 165) (c := 5) (by decide) t, Or.inl (show fkC 165 = 0 by decide), ?_⟩
  have e1 : ExC [165] σ (pIC σ a 165 u) := ExC.pI (by decide) (Or.inr (by decide))
  refine k_aload_n (v := some a) l0 (k_iconst (m := 0) rfl (fun v hv => ?_))
  refine ⟨a, rfl, kgCob (k := 166) (c := 5) (by decide) (t.x e1), Or.inl (show fkC 166 = 0 by decide), ?_⟩
  have e2 : ExC [166] (pIC σ a 165 u) (pIC (pIC σ a 165 u) a 166 v) := ExC.pI (by decide) (Or.inr (by decide))
  refine k_aload_n (v := some a) l0 (k_iconst (m := 0) rfl (fun w hw => ?_))
  have hz := hI.pz t hu hv hw
  exact ⟨a, rfl, kgCob (k := 167) (c := 5) (by decide) ((t.x e1).x e2), Or.inl (show fkC 167 = 0 by decide), h _ hz.1 hz.2⟩
end KR3
