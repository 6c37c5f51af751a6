/-! one exp more: what comes -/
theorem opn_len {x : XrZ} (hk : 0 ≤ x.1.1 ∧ x.1.1 ≤ 10) (hl : x.1.1 = 10 → (x.2.2.2.length : Int) < 2147483648) : (opnZ x).toInt = ((opsZ x).length : Int) := by
  unfold opnZ opsZ
  have kk : (x.1.1 = 3 ∨ x.1.1 = 4 ∨ x.1.1 = 5) ∨ x.1.1 = 9 ∨ x.1.1 = 7 ∨ x.1.1 = 8 ∨ x.1.1 = 10 ∨ (x.1.1 ≤ 2 ∨ x.1.1 = 6) := by omega
  rcases kk with k | k | k | k | k | k
  · rw [if_pos (by omega), if_pos (by omega)]; rfl
  · rw [if_pos (by omega), if_neg (by omega), if_neg (by omega), if_neg (by omega), if_pos (by omega)]; rfl
  · rw [if_neg (by omega), if_pos (by omega), if_neg (by omega), if_pos (by omega)]; rfl
  · rw [if_neg (by omega), if_neg (by omega), if_pos (by omega), if_neg (by omega), if_neg (by omega), if_pos (by omega)]; rfl
  · rw [if_neg (by omega), if_neg (by omega), if_neg (by omega), if_pos k, if_neg (by omega), if_neg (by omega), if_neg (by omega), if_neg (by omega), if_pos k, List.length_reverse]
    exact Int32.toInt_ofInt_of_le (Int.le_trans (by decide) (Int.natCast_nonneg _)) (by rw [show (2 : Int) ^ 31 = 2147483648 from rfl]; exact hl k)
  · rw [if_neg (by omega), if_neg (by omega), if_neg (by omega), if_neg (by omega), if_neg (by omega), if_neg (by omega), if_neg (by omega), if_neg (by omega), if_neg (by omega)]; rfl
theorem JhR.t {σ τ : RS} {T V : TbT} {n : Nat} {l l' : List ItZ} (h : JhR σ T n l) (ta : TaZ (xcZ l) T V) (e88 : aI τ 88 = aI σ 88) (e59 : aI τ 59 = aI σ 59) (es : ∀ k, swZ k l' = swZ k l) (ed : ∀ k, dfZ k l' = dfZ k l) (ex : xcZ l ≤ xcZ l') : JhR τ V n l' := fun k hk => by
  obtain ⟨h1, h2⟩ := h k hk
  rw [es, ed, e88, e59]
  refine ⟨fun q => ?_, h2⟩
  obtain ⟨a, b⟩ := h1 q
  rw [ta_op ta q a]
  exact ⟨by omega, b⟩
theorem JvR.t {σ τ : RS} {C : CxT} {T V : TbT} (h : JvR σ C T) (e86 : aI τ 86 = aI σ 86) (e87 : aL τ 87 = aL σ 87) (e : V.2 = T.2) : JvR τ C V := fun v hv => by
  rw [e86, e87, e]
  exact h v hv
theorem JlR.t {σ τ : RS} {l l' : List ItZ} (h : JlR σ l) (e91 : gI τ 91 = gI σ 91) (e90 : aI τ 90 = aI σ 90) (e : lbZ l' = lbZ l) : JlR τ l' := by
  unfold JlR
  rw [e91, e90, e]
  exact h
theorem ex_post {b kd : Nat → Int} {σ0 σ τ : RS} {C : CxT} {tn : Nat} {l : List ItZ} {T T0 : TbT} {S U : List Int} {N : Int → Int} {x : XrZ} {c : Int32} {e : TvT} (hJ : JR b kd σ0 σ C tn l T S) (hO : OkL C N T0 l T) (hVv : VvT C T) (hMy : MyT C) (hS : S = opsZ x ++ U) (hU : SkP (.inl x :: l) (ipuZ (xcZ l) (.inl x) ++ U)) (hc : c.toInt = (l.length : Int)) (hb : (l.length : Int) < 2147483647) (hX : XtxR σ0 C T0 l x)
    (he : exT C T (xcZ l) x = some e) (hG : GoR σ c (aI σ 22 c.toNatClampNeg) x e τ) : ∃ V, stT C T (xcZ l) x = some V ∧ VvT C V ∧ JR b kd σ0 τ C tn (.inl x :: l) V (ipuZ (xcZ l) (.inl x) ++ U) := by
  have hpre := ex_pre hJ hO hS hc hX
  have hJ0 := hJ
  obtain ⟨⟨hf, h66, hk⟩, ⟨hs1, hs2⟩, ⟨h74, ht⟩, hv, hh, hl, h89, hn⟩ := hJ
  have x2 := hX.2.1
  have hcn : c.toNatClampNeg = l.length := nT_x hc
  have cc := hpre.1
  have rg := sk_rg hk
  have te : T.1 (xcZ l) = T0.1 (xcZ l) := okl_t hO _ (Nat.le_refl _)
  have xl : xcZ l < 2147483647 := by have := xc_len (l := l); omega
  refine ⟨(fun j => if j = xcZ l then e else T.1 j, vrT C T x), by unfold stT; rw [he]; rfl, ?_, ?_⟩
  · have v2 : vrT C T x = T.2 := vr_d (by omega)
    show ∀ v, v < _ → _ ∧ (¬ (vrT C T x v).1 = 0 → _)
    rw [v2]
    exact hVv
  have ta : TaZ (xcZ l) T ((fun j => if j = xcZ l then e else T.1 j, vrT C T x) : TbT) := fun q hq => if_neg (by omega)
  have v2 : ((fun j => if j = xcZ l then e else T.1 j, vrT C T x) : TbT).2 = T.2 := vr_d (by omega)
  have v1 : ((fun j => if j = xcZ l then e else T.1 j, vrT C T x) : TbT).1 (xcZ l) = e := if_pos rfl
  generalize ((fun j => if j = xcZ l then e else T.1 j, vrT C T x) : TbT) = V at ta v1 v2
  by_cases k : 11 ≤ x.1.1
  · obtain rfl := hG.1 k
    have o0 : opsZ x = [] := by unfold opsZ; rw [if_neg (by omega), if_neg (by omega), if_neg (by omega), if_neg (by omega), if_neg (by omega)]
    have p0 : ipuZ (xcZ l) (.inl x) = [] := if_neg (by omega)
    rw [o0] at hS
    have hS : S = U := hS
    rw [p0] at hU ⊢
    refine ⟨⟨hf, h66, hU⟩, ⟨by rw [hs1, hS]; rfl, fun i q hq => ?_⟩, ⟨?_, fun q => absurd q (by omega), ht.fr ta (fun _ _ => ⟨rfl, rfl, rfl, rfl, rfl⟩) (fun _ _ => ⟨rfl, rfl, rfl, rfl, rfl⟩)⟩, hv.t rfl rfl v2, hh.t ta rfl rfl (fun _ => rfl) (fun _ => rfl) (Nat.le_succ _), hl.t rfl rfl rfl, h89, fun q => ?_⟩
    · have hq : U[i]? = some q := hq
      rw [← hS] at hq
      have m := rg q (List.mem_of_getElem? hq)
      rw [ta_op ta m.1 m.2]
      have z := hs2 i q hq
      rw [hS] at z
      exact z
    · rw [h74]
      show (ycZ l : Int) = ((if x.1.1 ≤ 10 then ycZ l + 1 else ycZ l : Nat) : Int)
      rw [if_neg (by omega)]
    · rw [hn q, meZ, if_neg (by omega), if_neg (by omega), me_ta ta]
  · have k10 : x.1.1 ≤ 10 := by omega
    obtain ⟨σ1, ty, su, v, hsh, rfl, hB⟩ := hG.2 k10
    obtain ⟨fj, ⟨u82, u83, u80⟩, ⟨w1, w2⟩, ⟨w3, w4⟩, w5⟩ := hB
    have p1 : ipuZ (xcZ l) (.inl x) = [(xcZ l : Int)] := if_pos k10
    rw [p1] at hU ⊢
    have hU : SkP (.inl x :: l) ((xcZ l : Int) :: U) := hU
    have ol := opn_len ⟨x2.1, k10⟩ (fun q => by have a := cc.2.2.2.2.2.2.2.1 q; have := (aI σ c.toNatClampNeg 20).toInt_lt; have z := (aI σ 20 c.toNatClampNeg).toInt_lt; omega)
    have sl : S.length = (opsZ x).length + U.length := by rw [hS, List.length_append]
    have g1 : (gI σ1 69).toInt = (U.length : Int) := by
      rw [fj.1, (g69 hs1 ol (by omega)).2]
      omega
    have n1 : (gI σ1 69).toNatClampNeg = U.length := nT_x g1
    have ul : U.length ≤ xcZ l := by have := sk_len hk; omega
    have g74 : gI σ1 74 = gI σ 74 := fj.2.1 74 (by decide)
    have n74 : (gI σ1 74).toNatClampNeg = ycZ l := nT_x (by rw [g74]; exact h74)
    have yl := yc_xc (l := l)
    have aa : ∀ j, j ≠ 80 → j ≠ 82 → j ≠ 83 → aI σ1 j = aI σ j := fj.2.2.2.2
    have al : aL σ1 = aL σ := fj.2.2.2.1
    have va : VaT e := va_ex he ⟨x2.1, k10⟩ (by
        by_cases z : x.1.1 = 1
        · exact Or.inl (by rw [te]; exact hX.2.2.2.2.2.1 z)
        · omega) (fun q => by rw [te]; exact hX.2.2.2.2.1 (by omega)) (fun q => (hpre.2.2.2.2.2.2.1 q).2.2.2) (fun q => ⟨(hpre.2.2.2.2.2.2.2.2.1 q).1.2.2.2, (hpre.2.2.2.2.2.2.2.2.1 q).2.2.2.2⟩) (fun q => ⟨(hpre.2.2.2.2.2.2.2.2.2.1 q).2.1.2.2.2, (hpre.2.2.2.2.2.2.2.2.2.1 q).2.2.2.2.2⟩) hVv hMy ⟨hX.2.2.2.2.2.2.2.1.1, hX.2.2.2.2.2.2.2.1.2.1, hX.2.2.2.2.2.2.2.1.2.2.1⟩
    refine ⟨⟨(hf.fj fj).lie, ?_, hU⟩, ⟨?_, fun i q hq => ?_⟩, ⟨?_, fun _ => ⟨⟨?_, ?_, ?_⟩, ⟨?_, ?_, ?_, ?_, ?_⟩⟩, ?_⟩, ?_, ?_, ?_, ?_, fun q => ?_⟩
    · rw [lie_66, fj.2.1 66 (by decide)]; exact h66
    · rw [lie_69]
      exact (g69p (k := 1) (m := 1) g1 rfl (by omega)).2
    · cases i with
      | zero =>
        have hq : q = (xcZ l : Int) := by simpa using hq.symm
        have ix : ((xcZ l : Int) :: U).length - 1 - 0 = U.length := by rw [List.length_cons]; omega
        show TeR (lieS σ1 c ty su v) (((xcZ l : Int) :: U).length - 1 - 0) (opT V q)
        rw [ix, hq]
        have ov : opT V (xcZ l : Int) = e := by unfold opT; rw [Int.toNat_natCast]; exact v1
        rw [ov]
        refine ⟨?_, ?_, fun z => ?_, va⟩
        · show (upd (aI σ1 70) (gI σ1 69).toNatClampNeg ty U.length).toInt = e.1
          rw [n1, upd_eq]; exact hsh.1
        · show ¬ upd (aI σ1 71) (gI σ1 69).toNatClampNeg su U.length = 0 ↔ _
          rw [n1, upd_eq]; exact hsh.2.1
        · show vp_updL (aL σ1 72) (gI σ1 69).toNatClampNeg v U.length = _
          rw [n1, uL_eq]; exact hsh.2.2 z
      | succ i =>
        have hq : U[i]? = some q := by simpa using hq
        have il : i < U.length := (List.getElem?_eq_some_iff.mp hq).1
        have hq' : S[(opsZ x).length + i]? = some q := by
          rw [hS, List.getElem?_append_right (by omega), show (opsZ x).length + i - (opsZ x).length = i by omega]
          exact hq
        have m := rg q (List.mem_of_getElem? hq')
        have z := hs2 _ q hq'
        have ix : ((xcZ l : Int) :: U).length - 1 - (i + 1) = U.length - 1 - i := by rw [List.length_cons]; omega
        have ix2 : S.length - 1 - ((opsZ x).length + i) = U.length - 1 - i := by omega
        show TeR (lieS σ1 c ty su v) (((xcZ l : Int) :: U).length - 1 - (i + 1)) (opT V q)
        rw [ix, ta_op ta m.1 m.2]
        rw [ix2] at z
        refine ⟨?_, ?_, fun y => ?_, z.2.2.2⟩
        · show (upd (aI σ1 70) (gI σ1 69).toNatClampNeg ty (U.length - 1 - i)).toInt = _
          rw [n1, upd_ne (by omega), aa 70 (by decide) (by decide) (by decide)]; exact z.1
        · show ¬ upd (aI σ1 71) (gI σ1 69).toNatClampNeg su (U.length - 1 - i) = 0 ↔ _
          rw [n1, upd_ne (by omega), aa 71 (by decide) (by decide) (by decide)]; exact z.2.1
        · show vp_updL (aL σ1 72) (gI σ1 69).toNatClampNeg v (U.length - 1 - i) = _
          rw [n1, uL_ne (by omega), al]; exact z.2.2.1 y
    · rw [lie_74]
      show _ = ((if x.1.1 ≤ 10 then ycZ l + 1 else ycZ l : Nat) : Int)
      rw [if_pos k10]
      exact (g69p (k := 1) (m := 1) (n := ycZ l) (by rw [g74]; exact h74) rfl (by omega)).2
    · show (upd (aI σ1 75) (gI σ1 74).toNatClampNeg (aI σ1 23 c.toNatClampNeg) (ycZ l)).toInt = _
      rw [n74, upd_eq, aa 23 (by decide) (by decide) (by decide)]
      exact (cc.2.1 k10).1
    · show (upd (aI σ1 76) (gI σ1 74).toNatClampNeg (aI σ1 24 c.toNatClampNeg) (ycZ l)).toInt = _
      rw [n74, upd_eq, aa 24 (by decide) (by decide) (by decide)]
      exact (cc.2.1 k10).2
    · show ShT (upd (aI σ1 77) (gI σ1 74).toNatClampNeg ty (ycZ l)) (upd (aI σ1 78) (gI σ1 74).toNatClampNeg su (ycZ l)) (vp_updL (aL σ1 79) (gI σ1 74).toNatClampNeg v (ycZ l)) (V.1 (xcZ l))
      rw [n74, upd_eq, upd_eq, uL_eq, v1]
      exact hsh
    · show ShT (upd (aI σ1 81) c.toNatClampNeg ty l.length) (upd (aI σ1 84) c.toNatClampNeg su l.length) (vp_updL (aL σ1 85) c.toNatClampNeg v l.length) (V.1 (xcZ l))
      rw [hcn, upd_eq, upd_eq, uL_eq, v1]
      exact hsh
    · intro z
      rw [v1]
      have y := w1 z
      rw [hcn] at y
      exact y
    · intro z
      rw [v1]
      have y := w2 z
      rw [hcn] at y
      exact y
    · intro z
      have y := (w3 z).1
      rw [hcn] at y
      exact y
    · intro z
      rw [v1]
      have y := (w4 z).1
      rw [hcn] at y
      exact y
    · refine ht.fr ta (fun p hp => ⟨?_, ?_, ?_, ?_, ?_⟩) (fun d hd => ⟨?_, ?_, ?_, ?_, ?_⟩)
      · show upd (aI σ1 75) (gI σ1 74).toNatClampNeg _ p = _
        rw [n74, upd_ne (by omega), aa 75 (by decide) (by decide) (by decide)]
      · show upd (aI σ1 76) (gI σ1 74).toNatClampNeg _ p = _
        rw [n74, upd_ne (by omega), aa 76 (by decide) (by decide) (by decide)]
      · show upd (aI σ1 77) (gI σ1 74).toNatClampNeg _ p = _
        rw [n74, upd_ne (by omega), aa 77 (by decide) (by decide) (by decide)]
      · show upd (aI σ1 78) (gI σ1 74).toNatClampNeg _ p = _
        rw [n74, upd_ne (by omega), aa 78 (by decide) (by decide) (by decide)]
      · show vp_updL (aL σ1 79) (gI σ1 74).toNatClampNeg _ p = _
        rw [n74, uL_ne (by omega), al]
      · show upd (aI σ1 81) c.toNatClampNeg _ d = _
        rw [hcn, upd_ne (by omega), aa 81 (by decide) (by decide) (by decide)]
      · exact u82 d (by omega)
      · exact u83 d (by omega)
      · show upd (aI σ1 84) c.toNatClampNeg _ d = _
        rw [hcn, upd_ne (by omega), aa 84 (by decide) (by decide) (by decide)]
      · show vp_updL (aL σ1 85) c.toNatClampNeg _ d = _
        rw [hcn, uL_ne (by omega), al]
    · exact hv.t (aa 86 (by decide) (by decide) (by decide)) (by show aL σ1 87 = _; rw [al]) v2
    · exact hh.t ta (aa 88 (by decide) (by decide) (by decide)) (aa 59 (by decide) (by decide) (by decide)) (fun _ => rfl) (fun _ => rfl) (Nat.le_succ _)
    · exact hl.t (fj.2.1 91 (by decide)) (aa 90 (by decide) (by decide) (by decide)) rfl
    · show (gI σ1 89).toInt = _
      rw [fj.2.1 89 (by decide)]; exact h89
    · show (aI σ1 80 q).toInt = meZ b kd V (.inl x :: l) q
      have tq : ∀ z : x.1.1 ≤ 2 ∨ x.1.1 = 6 ∨ x.1.1 = 9 ∨ x.1.1 = 10 ∨ x.1.1 = 14, ((aI σ 22 c.toNatClampNeg).toNatClampNeg = q ↔ (q : Int) = x.2.1.1) := fun z => by
        have a := cc.2.2.1 z
        have p := hX.2.2.2.2.2.2.2.2 k10
        have n : (aI σ 22 c.toNatClampNeg).toNatClampNeg = (aI σ 22 c.toNatClampNeg).toInt.toNat := rfl
        rw [n, a]
        omega
      rw [meZ]
      by_cases z : x.1.1 = 2 ∨ x.1.1 = 6 ∨ x.1.1 = 9
      · have t := tq (by omega)
        by_cases y : (q : Int) = x.2.1.1
        · rw [if_pos ⟨z, y⟩, ← t.mpr y]
          exact (w3 z).2
        · rw [if_neg (fun r => y r.2), if_neg (by omega), me_ta ta, u80 q (fun r => y (t.mp r.symm))]
          exact hn q
      · rw [if_neg (fun r => z r.1)]
        by_cases z2 : x.1.1 = 10
        · have t := tq (by omega)
          by_cases y : (q : Int) = x.2.1.1
          · rw [if_pos ⟨z2, y⟩, ← t.mpr y, v1]
            exact (w4 z2).2
          · rw [if_neg (fun r => y r.2), me_ta ta, u80 q (fun r => y (t.mp r.symm))]
            exact hn q
        · rw [if_neg (fun r => z2 r.1), me_ta ta, w5 (by omega)]
          exact hn q
