/-! the mark behind a variable's exp -/
theorem ft_ca {e : TvT} {t : Int} (h : ftT e t) (hv : VaT e) (hc : ¬ e.2.1 = 0) (ht : 0 ≤ t ∧ t ≤ 4) : nrT t e.2.2.1 = e.2.2.1 ∧ (t = 0 → e.2.2.1 = 0 ∨ e.2.2.1 = 1) ∧ caT t e.2.2.1 = e.2.2.1 := by
  have v := hv.2 hc
  have k : nrT t e.2.2.1 = e.2.2.1 ∧ (t = 0 → e.2.2.1 = 0 ∨ e.2.2.1 = 1) := by
    rcases h with (h | ⟨h1, h2⟩ | ⟨h1, h2⟩) | ⟨h1, h2, h3⟩
    · rw [← h]; exact v
    · rw [h2]
      exact ⟨nr_3.mpr (nr_rg (by omega) (by omega) v.1), fun q => by omega⟩
    · rw [h2]
      exact ⟨rfl, fun q => by omega⟩
    · exact ⟨(hl_iff.mp h3).2, fun q => by omega⟩
  refine ⟨k.1, k.2, ?_⟩
  by_cases z : t = 0
  · rw [z]; exact ca_b (k.2 z)
  · rw [ca_nr z]; exact k.1
theorem vr_y {C : CxT} {T : TbT} {x : XrZ} {v : Nat} (h : x.1.1 = 15) (e : (v : Int) = x.2.1.2.1) : vrT C T x v = (if ¬ (vtT C x.2.1.2.1).2 = 0 ∧ ¬ (opT T x.2.2.1.2.1).2.1 = 0 then 1 else 0, (opT T x.2.2.1.2.1).2.2.1) := by
  unfold vrT
  rw [if_pos h]
  exact if_pos e
theorem vr_n {C : CxT} {T : TbT} {x : XrZ} {v : Nat} (e : ¬ (v : Int) = x.2.1.2.1) : vrT C T x v = T.2 v := by
  unfold vrT
  split
  · exact if_neg e
  · rfl
theorem vr_01 {C : CxT} {T : TbT} {x : XrZ} : ¬ (if ¬ (vtT C x.2.1.2.1).2 = 0 ∧ ¬ (opT T x.2.2.1.2.1).2.1 = 0 then (1 : Int) else 0) = 0 ↔ (¬ (vtT C x.2.1.2.1).2 = 0 ∧ ¬ (opT T x.2.2.1.2.1).2.1 = 0) := by
  by_cases y : ¬ (vtT C x.2.1.2.1).2 = 0 ∧ ¬ (opT T x.2.2.1.2.1).2.1 = 0
  · rw [if_pos y]; exact ⟨fun _ => y, fun _ => by decide⟩
  · rw [if_neg y]; exact ⟨fun w => absurd rfl w, fun w => absurd w y⟩
/-- what stands of it in the text -/
def StxR (σ0 : RS) (C : CxT) (l : List ItZ) (x : XrZ) : Prop := ccZ σ0 l.length x ∧ x.1.1 = 15 ∧ knT C x.2.1.2.1 ∧ (aI σ0 44 x.2.1.2.1.toNat).toInt = (vtT C x.2.1.2.1).1 ∧ (¬ aI σ0 45 x.2.1.2.1.toNat = 0 ↔ ¬ (vtT C x.2.1.2.1).2 = 0) ∧ 0 ≤ (vtT C x.2.1.2.1).1 ∧ (vtT C x.2.1.2.1).1 ≤ 4
theorem s_pre {b kd : Nat → Int} {σ0 σ : RS} {C : CxT} {tn : Nat} {l : List ItZ} {T : TbT} {S U : List Int} {x : XrZ} {c : Int32} (hJ : JR b kd σ0 σ C tn l T S) (hS : S = opsZ x ++ U) (hc : c.toInt = (l.length : Int)) (hX : StxR σ0 C l x) :
    gI σ 66 = 0 ∧ (((aI σ 19 c.toNatClampNeg).toInt = 21 ∨ ((aI σ 19 c.toNatClampNeg).toInt = 22 ∧ ¬ (aI σ 21 c.toNatClampNeg) = 0 ∧ ¬ (aI σ 21 c.toNatClampNeg) = 2) ∨ (aI σ 19 c.toNatClampNeg).toInt = 23 ∨ (aI σ 19 c.toNatClampNeg).toInt = 27 ∨ (aI σ 19 c.toNatClampNeg).toInt = 31 ∨ ((aI σ 19 c.toNatClampNeg).toInt = 33 ∧ ¬ (aI σ 21 c.toNatClampNeg) = 0) ∨ (aI σ 19 c.toNatClampNeg).toInt = 37 ∨ (aI σ 19 c.toNatClampNeg).toInt = 38 ∨ ((aI σ 19 c.toNatClampNeg).toInt = 48 ∧ ¬ (aI σ 20 c.toNatClampNeg) = 0) ∨ (aI σ 19 c.toNatClampNeg).toInt = 49) → TeR σ (gI σ 69 - 1).toNatClampNeg ((opT T x.2.2.1.2.1))) ∧ ((aI σ 19 c.toNatClampNeg).toInt = 22 → ¬ (aI σ 21 c.toNatClampNeg) = 2 → (aI σ 44 (aI σ 20 c.toNatClampNeg).toNatClampNeg).toInt = (vtT C x.2.1.2.1).1 ∧ (¬ aI σ 45 (aI σ 20 c.toNatClampNeg).toNatClampNeg = 0 ↔ ¬ (vtT C x.2.1.2.1).2 = 0) ∧ (0 ≤ (vtT C x.2.1.2.1).1 ∧ (vtT C x.2.1.2.1).1 ≤ 4)) ∧ ((aI σ 19 c.toNatClampNeg).toInt = 48 → (if gI σ 89 = 10 then (5 : Int32) else if gI σ 89 = 11 then 3 else aI σ 38 (gI σ 89).toNatClampNeg).toInt = (0 : Int)) ∧ ((aI σ 19 c.toNatClampNeg).toInt = 38 → (aI σ 88 (aI σ 20 c.toNatClampNeg).toNatClampNeg).toInt = (0 : Int) ∧ (1 ≤ (0 : Int) ∧ (0 : Int) ≤ 3) ∧ (aI σ 51 (aI σ 20 c.toNatClampNeg).toNatClampNeg).toInt ≤ c.toInt ∧ 0 ≤ (aI σ 51 (aI σ 20 c.toNatClampNeg).toNatClampNeg).toInt) := by
  obtain ⟨⟨hf, h66, hk⟩, ⟨hs1, hs2⟩, _, _, hh, _, h89, _⟩ := hJ
  obtain ⟨x1, x2, x3, x4, x5, x6⟩ := hX
  have hn : c.toNatClampNeg = l.length := nT_x hc
  have aa : ∀ k, k < 59 → aI σ k = aI σ0 k := fun k q => hf.2.2.1 k (bj_n (Or.inl q))
  have op : opkZ x = 22 := by unfold opkZ; rw [if_neg (by omega), if_neg (by omega), if_neg (by omega), if_neg (by omega), if_neg (by omega), if_neg (by omega), if_neg (by omega), if_neg (by omega), if_neg (by omega), if_neg (by omega), if_neg (by omega), if_neg (by omega), if_neg (by omega), if_pos x2]
  have o : (aI σ 19 c.toNatClampNeg).toInt = 22 := by rw [hn, aa 19 (by decide), ← op]; exact x1.1
  have ab := x1.2.2.2.2.2.2.2.2.2 x2
  have k : (aI σ 20 c.toNatClampNeg).toInt = x.2.1.2.1 := by rw [hn, aa 20 (by decide)]; exact ab.1
  have kn : (aI σ 20 c.toNatClampNeg).toNatClampNeg = x.2.1.2.1.toNat := by show (aI σ 20 c.toNatClampNeg).toInt.toNat = _; rw [k]
  refine ⟨h66, fun _ => ?_, fun _ _ => ?_, fun q => absurd q (by omega), fun q => absurd q (by omega)⟩
  · have sy : S = x.2.2.1.2.1 :: U := by rw [hS]; unfold opsZ; rw [if_pos (by omega)]; rfl
    have z := hs2 0 x.2.2.1.2.1 (by rw [sy]; rfl)
    have g := (g69 (k := 1) (m := 1) hs1 rfl (by rw [sy, List.length_cons]; omega)).1
    exact z.ix (by omega)
  · rw [kn, aa 44 (by decide), aa 45 (by decide)]
    exact ⟨x4, x5, x6⟩
theorem s_st {b kd : Nat → Int} {σ0 σ : RS} {C : CxT} {tn : Nat} {l : List ItZ} {T : TbT} {S U : List Int} {x : XrZ} {c : Int32} {ok : Prop} {F : RS → Prop} (hJ : JR b kd σ0 σ C tn l T S) (hVv : VvT C T) (hS : S = opsZ x ++ U) (hU : SkP (.inl x :: l) (ipuZ (xcZ l) (.inl x) ++ U)) (hc : c.toInt = (l.length : Int)) (hX : StxR σ0 C l x)
    (hst : StR σ c (opT T x.2.2.1.2.1) (vtT C x.2.1.2.1) 0 0 ok F) : (ok ↔ ¬ stT C T (xcZ l) x = none) ∧ ∀ τ, ok → F τ → ∃ V, stT C T (xcZ l) x = some V ∧ VvT C V ∧ JR b kd σ0 τ C tn (.inl x :: l) V (ipuZ (xcZ l) (.inl x) ++ U) := by
  have hpre := s_pre hJ hS hc hX
  obtain ⟨⟨hf, h66, hk⟩, ⟨hs1, hs2⟩, ⟨h74, ht⟩, hv, hh, hl, h89, hn'⟩ := hJ
  obtain ⟨x1, x2, x3, x4, x5, x6⟩ := hX
  have hn : c.toNatClampNeg = l.length := nT_x hc
  have rg := sk_rg hk
  have aa : ∀ k, k < 59 → aI σ k = aI σ0 k := fun k q => hf.2.2.1 k (bj_n (Or.inl q))
  have op : opkZ x = 22 := by unfold opkZ; rw [if_neg (by omega), if_neg (by omega), if_neg (by omega), if_neg (by omega), if_neg (by omega), if_neg (by omega), if_neg (by omega), if_neg (by omega), if_neg (by omega), if_neg (by omega), if_neg (by omega), if_neg (by omega), if_neg (by omega), if_pos x2]
  have o : (aI σ 19 c.toNatClampNeg).toInt = 22 := by rw [hn, aa 19 (by decide), ← op]; exact x1.1
  have ab := x1.2.2.2.2.2.2.2.2.2 x2
  have k : (aI σ 20 c.toNatClampNeg).toInt = x.2.1.2.1 := by rw [hn, aa 20 (by decide)]; exact ab.1
  have d : (aI σ 21 c.toNatClampNeg).toInt = 1 := by rw [hn, aa 21 (by decide)]; exact ab.2
  have kn : (aI σ 20 c.toNatClampNeg).toNatClampNeg = x.2.1.2.1.toNat := by show (aI σ 20 c.toNatClampNeg).toInt.toNat = _; rw [k]
  have d0 : ¬ aI σ 21 c.toNatClampNeg = 0 := fun q => by have w := (i32_kk (k := 0) (K := 0) d rfl).mp q; omega
  have d2 : ¬ aI σ 21 c.toNatClampNeg = 2 := fun q => by have w := (i32_kk (k := 2) (K := 2) d rfl).mp q; omega
  have te := hpre.2.1 (Or.inr (Or.inl ⟨o, d0, d2⟩))
  have sy : S = x.2.2.1.2.1 :: U := by rw [hS]; unfold opsZ; rw [if_pos (by omega)]; rfl
  have p0 : ipuZ (xcZ l) (.inl x) = [] := if_neg (by omega)
  have g := g69 (k := 1) (m := 1) hs1 rfl (by rw [sy, List.length_cons]; omega)
  have sl : S.length = U.length + 1 := by rw [sy, List.length_cons]
  have ex : exT C T (xcZ l) x = if ftT (opT T x.2.2.1.2.1) (vtT C x.2.1.2.1).1 then some (T.1 (xcZ l)) else none := by
    rw [ex_15 x2]
    unfold xsT
    by_cases q : ftT (opT T x.2.2.1.2.1) (vtT C x.2.1.2.1).1
    · rw [if_pos q, if_pos ⟨x3, q⟩]
    · rw [if_neg q, if_neg (fun z => q z.2)]
  obtain ⟨ok1, F1⟩ : (ok ↔ id (ftT (opT T x.2.2.1.2.1) (vtT C x.2.1.2.1).1)) ∧ ∀ τ, F τ → Sf_22b σ c (opT T x.2.2.1.2.1) (vtT C x.2.1.2.1) 0 0 τ := by
    rcases hst with ⟨hop, rfl, rfl⟩ | ⟨⟨hop, hb0⟩, rfl, rfl⟩ | ⟨⟨hop, hb0⟩, rfl, rfl⟩ | ⟨hop, rfl, rfl⟩ | ⟨⟨hop, hb0⟩, rfl, rfl⟩ | ⟨⟨hop, hb0⟩, rfl, rfl⟩ | ⟨hop, rfl, rfl⟩ | ⟨hop, rfl, rfl⟩ | ⟨hop, rfl, rfl⟩ | ⟨hop, rfl, rfl⟩ | ⟨hop, rfl, rfl⟩ | ⟨hop, rfl, rfl⟩ | ⟨hop, rfl, rfl⟩ | ⟨hop, rfl, rfl⟩ | ⟨hop, rfl, rfl⟩ | ⟨hop, rfl, rfl⟩
    · exfalso; omega
    · exact absurd hb0 d2
    · exact ⟨⟨fun z => z d0, fun z _ => z⟩, fun τ z => z⟩
    · exfalso; omega
    · exfalso; omega
    · exfalso; omega
    · exfalso; omega
    · exfalso; omega
    · exfalso; omega
    · exfalso; omega
    · exfalso; omega
    · exfalso; omega
    · exfalso; omega
    · exfalso; omega
    · exfalso; omega
    · exfalso; omega
  refine ⟨?_, fun τ hok hF => ?_⟩
  · rw [ok1]
    unfold stT
    rw [ex]
    show ftT (opT T x.2.2.1.2.1) (vtT C x.2.1.2.1).1 ↔ _
    by_cases q : ftT (opT T x.2.2.1.2.1) (vtT C x.2.1.2.1).1
    · rw [if_pos q]
      exact ⟨fun _ z => (by cases z), fun _ => q⟩
    · rw [if_neg q]
      exact ⟨fun z => absurd z q, fun z => absurd rfl z⟩
  · have q := ok1.mp hok
    rw [if_pos (show ftT (opT T x.2.2.1.2.1) (vtT C x.2.1.2.1).1 from q)] at ex
    obtain ⟨su, hsu, rfl⟩ := (F1 τ hF).2 d0
    refine ⟨(fun j => if j = xcZ l then T.1 (xcZ l) else T.1 j, vrT C T x), by unfold stT; rw [ex]; rfl, ?_, ?_⟩
    · intro v hv0
      have z := hVv v hv0
      refine ⟨z.1, ?_⟩
      show ¬ (vrT C T x v).1 = 0 → nrT (C.2.1 v).1 (vrT C T x v).2 = (vrT C T x v).2 ∧ ((C.2.1 v).1 = 0 → (vrT C T x v).2 = 0 ∨ (vrT C T x v).2 = 1)
      by_cases e : (v : Int) = x.2.1.2.1
      · rw [vr_y x2 e]
        intro w
        have ww := (vr_01 (C := C) (T := T) (x := x)).mp w
        have cv : (C.2.1 v) = vtT C x.2.1.2.1 := by unfold vtT; rw [← e, Int.toNat_natCast]
        have f := ft_ca q te.2.2.2 ww.2 x6
        rw [cv]
        exact ⟨f.1, f.2.1⟩
      · rw [vr_n e]
        exact z.2
    have ta : TaZ (xcZ l + 1) T ((fun j => if j = xcZ l then T.1 (xcZ l) else T.1 j, vrT C T x) : TbT) := fun r hr => by
      show (if r = xcZ l then T.1 (xcZ l) else T.1 r) = _
      split
      · next e => rw [e]
      · rfl
    have tb : TaZ (xcZ l) T ((fun j => if j = xcZ l then T.1 (xcZ l) else T.1 j, vrT C T x) : TbT) := fun r hr => ta r (by omega)
    have v2 : ((fun j => if j = xcZ l then T.1 (xcZ l) else T.1 j, vrT C T x) : TbT).2 = vrT C T x := rfl
    generalize ((fun j => if j = xcZ l then T.1 (xcZ l) else T.1 j, vrT C T x) : TbT) = V at ta tb v2
    rw [p0] at hU ⊢
    refine ⟨⟨((hf.i (by omega)).a rfl).m (by omega), h66, hU⟩, ⟨?_, fun i r hr => ?_⟩, ⟨?_, fun z => absurd z (by omega), ht.fr tb (fun _ _ => ⟨rfl, rfl, rfl, rfl, rfl⟩) (fun _ _ => ⟨rfl, rfl, rfl, rfl, rfl⟩)⟩, ?_, hh.t tb rfl rfl (fun _ => rfl) (fun _ => rfl) (Nat.le_succ _), hl.t rfl rfl rfl, h89, fun r => ?_⟩
    · show (gI σ 69 - 1).toInt = _
      rw [g.2, sl]; rfl
    · have hr : U[i]? = some r := hr
      have il := (List.getElem?_eq_some_iff.mp hr).1
      have hr' : S[i + 1]? = some r := by rw [sy]; exact hr
      have m := rg r (List.mem_of_getElem? hr')
      have z := hs2 _ r hr'
      show TeR _ (U.length - 1 - i) _
      rw [ta_op tb m.1 m.2]
      rw [show S.length - 1 - (i + 1) = U.length - 1 - i by omega] at z
      exact z
    · show (gI σ 74).toInt = ((if x.1.1 ≤ 10 then ycZ l + 1 else ycZ l : Nat) : Int)
      rw [if_neg (by omega)]; exact h74
    · intro v hv0
      have z := hv v hv0
      rw [v2]
      show (¬ upd (aI σ 86) (aI σ 20 c.toNatClampNeg).toNatClampNeg su v = 0 ↔ ¬ (vrT C T x v).1 = 0) ∧ (¬ (vrT C T x v).1 = 0 → vp_updL (aL σ 87) (aI σ 20 c.toNatClampNeg).toNatClampNeg _ v = (vrT C T x v).2 ∧ _)
      rw [kn]
      by_cases e : (v : Int) = x.2.1.2.1
      · have cv : (C.2.1 v) = vtT C x.2.1.2.1 := by unfold vtT; rw [← e, Int.toNat_natCast]
        rw [vr_y x2 e, ← e, Int.toNat_natCast, upd_eq, uL_eq]
        rw [e]
        refine ⟨hsu.trans vr_01.symm, fun w => ?_⟩
        have ww := (vr_01 (C := C) (T := T) (x := x)).mp w
        have f := ft_ca q te.2.2.2 ww.2 x6
        refine ⟨?_, by rw [cv]; exact ww.1⟩
        rw [te.2.2.1 ww.2]
        exact f.2.2
      · have ne : v ≠ x.2.1.2.1.toNat := fun y => e (by rw [y]; exact Int.toNat_of_nonneg x3.1)
        rw [vr_n e, upd_ne ne, uL_ne ne]
        exact z
    · show (aI σ 80 r).toInt = _
      rw [hn' r, meZ, if_neg (by omega), if_neg (by omega), me_ta tb]
