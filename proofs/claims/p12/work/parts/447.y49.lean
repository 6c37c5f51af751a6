/-! the reference's flow of a whole exp, as the class goes -/
/-- what stands fixed while flow goes: codes, tables -/
def FxE (σ : RS) (C : CxT) (z : ZS) (T : TbT) : Prop := (IcR id σ z.2.1 ∧ (gI σ 18).toInt = (z.2.1.length : Int) ∧ z.2.1.length ≤ 4000) ∧ JtR σ T z.2.1 ∧ (JvR σ C T ∧ ∀ v, v < C.2.2.1 → (¬ aI σ 45 v = 0 ↔ ¬ (C.2.1 v).2 = 0)) ∧ ∀ x l, (.inl x :: l) <:+ z.2.1 → x.1.1 = 14 → (aI σ 80 x.2.1.1.toNat).toInt = x.2.1.2.1
theorem FxE.fr {σ τ : RS} {C : CxT} {z : ZS} {T : TbT} (h : FxE σ C z T) (f : FfR σ τ) : FxE τ C z T := by
  have a : ∀ k, flA k = false → aI τ k = aI σ k := f.2.2.1
  refine ⟨⟨h.1.1.fr (fun k k1 k2 j _ => by
      have : k = 19 ∨ k = 20 ∨ k = 21 ∨ k = 22 ∨ k = 23 ∨ k = 24 := by omega
      rcases this with rfl | rfl | rfl | rfl | rfl | rfl <;> rw [a _ rfl]), by rw [f.1 18 rfl]; exact h.1.2.1, h.1.2.2⟩, h.2.1.fr (fun _ _ => rfl) (fun p _ => by rw [a 75 rfl, a 76 rfl, a 77 rfl, a 78 rfl, f.2.2.2 79 rfl]; exact ⟨rfl, rfl, rfl, rfl, rfl⟩) (fun p _ => by rw [a 81 rfl, a 82 rfl, a 83 rfl, a 84 rfl, f.2.2.2 85 rfl]; exact ⟨rfl, rfl, rfl, rfl, rfl⟩), ⟨h.2.2.1.1.t (a 86 rfl) (f.2.2.2 87 rfl) rfl, fun v hv => by rw [a 45 rfl]; exact h.2.2.1.2 v hv⟩, fun x l q k => by rw [a 80 rfl]; exact h.2.2.2 x l q k⟩
theorem itN_at {x : ItZ} {l L : List ItZ} (h : (x :: l) <:+ L) : itN L l.length = some x := itN_g h (by
  rw [itN]
  simp)
theorem jtr_at {σ : RS} {T : TbT} {x : XrZ} {l : List ItZ} : ∀ {L : List ItZ}, JtR σ T L → (.inl x :: l) <:+ L → x.1.1 ≤ 10 → ceR σ T l.length (xcZ l) x := by
  intro L
  induction L with
  | nil => intro _ h _; exact absurd (List.eq_nil_of_suffix_nil h) (by intro q; cases q)
  | cons y L ih =>
    intro h hs hk
    have h2 : JtR σ T L := by
      cases y with
      | inl y => exact h.2
      | inr y => exact h.2
    rcases List.suffix_cons_iff.mp hs with e | e
    · obtain ⟨e1, e2⟩ := List.cons.inj e
      subst e1
      subst e2
      exact (h.1 hk).2
    · exact ih h2 e hk
/-- pure facts of reading and judging that SURELY assigned asks -/
def PuE (C : CxT) (z : ZS) (T : TbT) : Prop := ∀ x l, (.inl x :: l) <:+ z.2.1 → (x.1.1 = 2 → (¬ (T.1 (xcZ l)).2.1 = 0 ↔ ¬ (T.2 x.2.1.2.1.toNat).1 = 0)) ∧ (x.1.1 = 14 → 0 ≤ x.2.1.2.1 ∧ 0 ≤ x.2.1.1) ∧ (¬ x.1.1 = 10 → x.2.1.2.1 < 64)
theorem tb_i {C : CxT} {xs : Nat → XrZ} : ∀ (i : Nat) (T : TbT), tbT C xs i = some T → ∀ k, i ≤ k → T.1 k = (t0T C.1 xs).1 k := by
  intro i
  induction i with
  | zero => intro T h k _; cases h; rfl
  | succ i ih =>
    intro T h k hk
    obtain ⟨U, e, u1, _, u3⟩ := tb_p h
    rw [u3]
    show (if k = i then e else U.1 k) = _
    rw [if_neg (by omega)]
    exact ih U u1 k (by omega)
theorem jd_y {C : CxT} {z : ZS} {T : TbT} (h : JdL C z T) {i : Nat} (hi : i < xnM z) : ∃ U : TbT, exT C U i (xth z i) = some (T.1 i) ∧ (∀ k, k < i → U.1 k = T.1 k) ∧ U.1 i = (t0T C.1 (fun i => xth z i)).1 i := by
  cases e : tbT C (fun i => xth z i) (i + 1) with
  | none =>
    have := tb_n e (xnM z) hi
    rw [h.1] at this
    cases this
  | some V =>
    obtain ⟨U, v, u1, u2, u3⟩ := tb_p e
    have a := tb_o e (xnM z) T hi h.1 i (Nat.lt_succ_self _)
    have b : V.1 i = v := by rw [u3]; exact if_pos rfl
    refine ⟨U, by rw [a, b]; exact u2, fun k hk => ?_, tb_i i U u1 i (Nat.le_refl _)⟩
    have c := tb_o u1 (i + 1) V (Nat.le_succ _) e k hk
    have d := tb_o e (xnM z) T hi h.1 k (by omega)
    rw [d, c]
section
variable {σ : RS} {C : CxT} {z : ZS} {T : TbT} {l : List ItZ} {x : XrZ} {G F : MkF} {w : WzS} {c : Int32}
/-- one exp or mark -/
theorem xe_st (H : ZjD C z T) (P : PuE C z T) (E : FxE σ C z T) (hs : (.inl x :: l) <:+ z.2.1) (hc : c.toInt = (l.length : Int)) (hk : x.1.1 ≤ 14) (hS : MkS l x G F) (hG : G.length ≤ 100) (hA : w.2.2.1.length ≤ 200) (hcn : x.1.1 ≤ 10 → CnD T (xcZ l : Int) (paW x (T.1 (xcZ l)) w).1 (paW x (T.1 (xcZ l)) w).2.1) (h : XvR σ G w.1 w.2.1 w.2.2.1) (he : w.2.2.2 = false) :
    XvR (fxS σ c) F (paW x (T.1 (xcZ l)) w).1 (paW x (T.1 (xcZ l)) w).2.1 (paW x (T.1 (xcZ l)) w).2.2.1 ∧ (uvR σ c ↔ (paW x (T.1 (xcZ l)) w).2.2.2 = true) := by
  have cn : c.toNatClampNeg = l.length := nT_x hc
  have cc : ccZ σ l.length x := E.1.1.at (itN_at hs)
  have xe : xth z (xcZ l) = x := xg_at hs
  have hi : xcZ l < xnM z := xc_sf hs
  have k0 : 0 ≤ x.1.1 := by
    have := (H.2.2.1 _ hi).1
    rw [xe] at this
    exact this
  obtain ⟨U, u1, u2, u3⟩ := jd_y H.1 hi
  rw [xe] at u1
  have u3 : U.1 (xcZ l) = (tyX x, coX x, Int64.ofInt (vaX C.1 x), if x.1.1 = 10 then -1 else 0) := by
    rw [u3]
    show (tyX (xth z (xcZ l)), coX (xth z (xcZ l)), Int64.ofInt (vaX C.1 (xth z (xcZ l))), if (xth z (xcZ l)).1.1 = 10 then (-1 : Int) else 0) = _
    rw [xe]
  have co : ¬ (x.1.1 = 0 ∨ x.1.1 = 1) → (U.1 (xcZ l)).2.1 = 0 := fun q => by
    rw [u3]
    exact if_neg q
  have hop : (aI σ 19 c.toNatClampNeg).toInt = opkZ x := by rw [cn]; exact cc.1
  obtain ⟨p2, p14, p64⟩ := P x l hs
  have no : ∀ o : Int32, aI σ 19 c.toNatClampNeg = o → ¬ (o = 2 ∨ o = 3 ∨ o = 4 ∨ o = 16) → (paW x (T.1 (xcZ l)) w).2.2.2 = w.2.2.2 → (uvR σ c ↔ (paW x (T.1 (xcZ l)) w).2.2.2 = true) := fun o e n r => by
    rw [r, he]
    exact iff_of_false (uv_no (by rw [e]; exact n)) (by decide)
  have ce : x.1.1 ≤ 10 → ceR σ T l.length (xcZ l) x := fun q => jtr_at E.2.1 hs q
  have op : ∀ o : Int32, opkZ x = o.toInt → aI σ 19 c.toNatClampNeg = o := fun o e => i32_lit (hop.trans e)
  by_cases k2 : x.1.1 = 2
  · have ce := ce (by omega)
    rw [ex_2 k2] at u1
    unfold x2T at u1
    split at u1
    · rename_i kn
      have hl : (aI σ 83 c.toNatClampNeg).toInt = x.2.1.2.1 := by rw [cn]; exact ce.2.2.2.1 (Or.inl k2)
      refine xe_2 hop hS k2 (by rw [cn]; exact ce.1) (H.1.2 _ hi (by rw [xe]; omega)) hl kn.1 (p64 (by omega)) ?_ h he
      have jv := E.2.2.1.1 x.2.1.2.1.toNat (by have := kn.2; omega)
      have v45 := E.2.2.1.2 x.2.1.2.1.toNat (by have := kn.2; omega)
      rw [p2 k2, jv.1, v45]
      exact ⟨fun q => ⟨(jv.2 q).2, q⟩, fun q => q.2⟩
    · cases u1
  by_cases k6 : x.1.1 = 6
  · have ce := ce (by omega)
    have ct := co (by omega)
    rw [ex_6 k6] at u1
    unfold x6T at u1
    split at u1
    · rename_i kn
      have te := Option.some.inj u1
      refine xe_6 hS (Or.inl ⟨k6, ?_, rfl⟩) (by rw [← te]; exact ct) (by rw [cn]; exact ce.2.2.2.1 (Or.inr (Or.inl k6))) kn.1.1.1 (p64 (by omega)) h he
      have eo : opkZ x = (if x.2.1.1 = x.1.2.2.1 then 3 else 4) := by
        unfold opkZ
        rw [if_neg (by omega), if_neg (by omega), if_neg (by omega), if_neg (by omega), if_neg (by omega), if_pos k6]
      split at eo
      · exact Or.inl (op 3 eo)
      · exact Or.inr (op 4 eo)
    · cases u1
  by_cases k14 : x.1.1 = 14
  · have ct := co (by omega)
    rw [ex_d (by omega)] at u1
    have te := Option.some.inj u1
    have tk : (aI σ 22 l.length).toInt = x.2.1.1 := cc.2.2.1 (by omega)
    have e16 : opkZ x = 16 := by
      unfold opkZ
      rw [if_neg (by omega), if_neg (by omega), if_neg (by omega), if_neg (by omega), if_neg (by omega), if_neg (by omega), if_neg (by omega), if_neg (by omega), if_neg (by omega), if_neg (by omega), if_neg (by omega), if_neg (by omega), if_neg (by omega), if_neg (by omega)]
    have en : (aI σ 22 c.toNatClampNeg).toNatClampNeg = x.2.1.1.toNat := by
      rw [cn]
      have := (p14 k14).2
      exact nT_x (by rw [tk]; omega)
    exact xe_6 hS (Or.inr ⟨k14, op 16 e16, rfl⟩) (by rw [← te]; exact ct) (by rw [en]; exact E.2.2.2 x l hs k14) (p14 k14).1 (p64 (by omega)) h he
  by_cases k9 : x.1.1 = 9
  · have ce := ce (by omega)
    have ct := co (by omega)
    rw [ex_9 k9] at u1
    unfold x9T at u1
    split at u1
    · rename_i kn
      have te := Option.some.inj u1
      have r := xe_9 (t := T.1 (xcZ l)) hop hS k9 (by rw [← te]; exact ct) (by rw [cn]; exact ce.2.2.2.1 (Or.inr (Or.inr k9))) kn.1.1.1 h
      have eo : opkZ x = 17 := by
        unfold opkZ
        rw [if_neg (by omega), if_neg (by omega), if_neg (by omega), if_neg (by omega), if_neg (by omega), if_neg (by omega), if_neg (by omega), if_neg (by omega), if_pos k9]
      exact ⟨r.1, no 17 (op 17 eo) (by decide) r.2⟩
    · cases u1
  by_cases k4 : x.1.1 = 4
  · have ce := ce (by omega)
    have hcn := hcn (by omega)
    rw [ex_4 k4] at u1
    unfold x4T at u1
    split at u1
    · rename_i kn
      have te := Option.some.inj u1
      have ty : ¬ x.1.2.1 = 39 → ¬ (T.1 (xcZ l)).1 = 0 := fun q => by
        rw [← te]
        show ¬ auT x.1.2.1 _ = 0
        unfold auT pmT
        rw [if_neg q]
        split <;> decide
      have eo : opkZ x = 5 := by
        unfold opkZ
        rw [if_neg (by omega), if_neg (by omega), if_neg (by omega), if_pos k4]
      have r := xe_4 (t := T.1 (xcZ l)) (w := w) hop hS k4 (by rw [cn]; exact cc.2.2.2.2.1 (Or.inl k4)) (fun q e => ty q (by rw [← ce.1.1, ← cn, e]; rfl)) (fun q => by
        have := hcn.2 (by rw [Int.toNat_natCast]; exact ty q)
        rw [pa_4 k4, if_neg q] at this
        exact this) h
      exact ⟨r.1, no 5 (op 5 eo) (by decide) r.2⟩
    · cases u1
  by_cases k8 : x.1.1 = 8
  · have ce := ce (by omega)
    have hcn := hcn (by omega)
    have eo : opkZ x = 14 := by
      unfold opkZ
      rw [if_neg (by omega), if_neg (by omega), if_neg (by omega), if_neg (by omega), if_neg (by omega), if_neg (by omega), if_neg (by omega), if_pos k8]
    have r := xe_8 (t := T.1 (xcZ l)) (w := w) hop hS hG k8 (fun q => hcn.2 (by
      rw [Int.toNat_natCast]
      intro e
      exact q (by rw [cn]; exact i32_lit (ce.1.1.trans e)))) h
    exact ⟨r.1, no 14 (op 14 eo) (by decide) r.2⟩
  by_cases km : x.1.1 = 3 ∨ x.1.1 = 11 ∨ x.1.1 = 12 ∨ x.1.1 = 13 ∨ (x.1.1 = 7 ∧ (x.1.2.1 = 20 ∨ x.1.2.1 = 21))
  · have r := xe_mk (t := T.1 (xcZ l)) hop hS hG hA km h
    refine ⟨r.1, ?_⟩
    have eo : opkZ x = 15 ∨ opkZ x = 8 ∨ opkZ x = 10 ∨ opkZ x = 12 ∨ opkZ x = 13 ∨ opkZ x = 9 ∨ opkZ x = 11 := by
      unfold opkZ
      repeat' split
      all_goals omega
    rcases eo with e | e | e | e | e | e | e
    · exact no 15 (op 15 e) (by decide) r.2
    · exact no 8 (op 8 e) (by decide) r.2
    · exact no 10 (op 10 e) (by decide) r.2
    · exact no 12 (op 12 e) (by decide) r.2
    · exact no 13 (op 13 e) (by decide) r.2
    · exact no 9 (op 9 e) (by decide) r.2
    · exact no 11 (op 11 e) (by decide) r.2
  · have hk' : (0 ≤ x.1.1 ∧ x.1.1 ≤ 1) ∨ x.1.1 = 5 ∨ (x.1.1 = 7 ∧ ¬ x.1.2.1 = 20 ∧ ¬ x.1.2.1 = 21) ∨ x.1.1 = 10 := by omega
    have ce := ce (by omega)
    have r := xe_sid (t := T.1 (xcZ l)) hop hS hk' (by rw [cn]; exact ce.1) (H.1.2 _ hi (by rw [xe]; omega)) h
    refine ⟨r.1, ?_⟩
    have eo : opkZ x = 1 ∨ opkZ x = 6 ∨ opkZ x = 7 ∨ opkZ x = 18 := by
      unfold opkZ
      repeat' split
      all_goals omega
    rcases eo with e | e | e | e
    · exact no 1 (op 1 e) (by decide) r.2
    · exact no 6 (op 6 e) (by decide) r.2
    · exact no 7 (op 7 e) (by decide) r.2
    · exact no 18 (op 18 e) (by decide) r.2
end
