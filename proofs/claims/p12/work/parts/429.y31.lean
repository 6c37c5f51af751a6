/-! a CONSTANT condition: all holds on the side that is never gone -/
/-- judged: the tables, and values of CONSTANTS are of their TYPES -/
def JdL (C : CxT) (z : ZS) (T : TbT) : Prop := tbT C (fun i => xth z i) (xnM z) = some T ∧ ∀ i, i < xnM z → (xth z i).1.1 ≤ 10 → VaT (T.1 i)
theorem jd_x {C : CxT} {z : ZS} {T : TbT} (h : JdL C z T) {i : Nat} (hi : i < xnM z) : ∃ U : TbT, exT C U i (xth z i) = some (T.1 i) ∧ ∀ k, k < i → U.1 k = T.1 k := by
  cases e : tbT C (fun i => xth z i) (i + 1) with
  | none =>
    have := tb_n e (xnM z) hi
    rw [h.1] at this
    cases this
  | some V =>
    obtain ⟨U, v, u1, u2, u3⟩ := tb_p e
    have a := tb_o e (xnM z) T hi h.1 i (Nat.lt_succ_self _)
    have b : V.1 i = v := by rw [u3]; exact if_pos rfl
    refine ⟨U, by rw [a, b]; exact u2, fun k hk => ?_⟩
    have c := tb_o u1 (i + 1) V (Nat.le_succ _) e k hk
    have d := tb_o e (xnM z) T hi h.1 k (by omega)
    rw [d, c]
/-- an exp that is worked out: bits when it is true, false -/
def CnD (T : TbT) (a : Int) (t f : Int64) : Prop := ((T.1 a.toNat).1 = 0 → ¬ (T.1 a.toNat).2.1 = 0 → ((T.1 a.toNat).2.2.1 = 1 → f = allB) ∧ ((T.1 a.toNat).2.2.1 = 0 → t = allB)) ∧ (¬ (T.1 a.toNat).1 = 0 → t = f)
/-- what stands open, what is left for later, bits now; A: all held at first -/
def AwR (T : TbT) (A : Prop) : MkF → List Int64 → Int64 → Int64 → Prop
  | [], L, t, f => L = [] ∧ (A → t = allB ∧ f = allB)
  | (k, a, b) :: G, L, t, f =>
    if k = 3 then ∃ vf vt sq vq L', L = vf :: vt :: L' ∧ (CnD T a sq vq ∧ CnD T b vt vf) ∧ (sq = allB → vt = allB ∧ vf = allB) ∧ (vq = allB → t = allB ∧ f = allB) ∧ AwR T A G L' sq vq
    else if k = 1 then ∃ v s L', L = v :: L' ∧ CnD T a v s ∧ (s = allB → t = allB ∧ f = allB) ∧ AwR T A G L' v s
    else ∃ v s L', L = v :: L' ∧ CnD T a s v ∧ (s = allB → t = allB ∧ f = allB) ∧ AwR T A G L' s v
theorem aw_len {T : TbT} {A : Prop} : ∀ {F : MkF} {L : List Int64} {t f : Int64}, AwR T A F L t f → L.length ≤ 2 * F.length := by
  intro F
  induction F with
  | nil => intro L t f h; rw [h.1]; exact Nat.le_refl _
  | cons x G ih =>
    obtain ⟨k, a, b⟩ := x
    intro L t f h
    rw [AwR] at h
    rw [List.length_cons]
    split at h
    · obtain ⟨vf, vt, sq, vq, L', rfl, _, _, _, r⟩ := h
      have := ih r
      rw [List.length_cons, List.length_cons]
      omega
    · split at h
      · obtain ⟨v, s, L', rfl, _, _, r⟩ := h
        have := ih r
        rw [List.length_cons]
        omega
      · obtain ⟨v, s, L', rfl, _, _, r⟩ := h
        have := ih r
        rw [List.length_cons]
        omega
/-- bits change, and stay all where they are all -/
theorem aw_mo {T : TbT} {A : Prop} {F : MkF} {L : List Int64} {t f t' f' : Int64} (h : AwR T A F L t f) (q : t = allB → f = allB → t' = allB ∧ f' = allB) : AwR T A F L t' f' := by
  cases F with
  | nil => exact ⟨h.1, fun a => q (h.2 a).1 (h.2 a).2⟩
  | cons x G =>
    obtain ⟨k, a, b⟩ := x
    rw [AwR] at h ⊢
    split at h
    · rename_i c
      rw [if_pos c]
      obtain ⟨vf, vt, sq, vq, L', e, d1, d2, d3, r⟩ := h
      exact ⟨vf, vt, sq, vq, L', e, d1, d2, fun z => q (d3 z).1 (d3 z).2, r⟩
    · rename_i c
      rw [if_neg c]
      split at h
      · rename_i c2
        rw [if_pos c2]
        obtain ⟨v, s, L', e, d1, d2, r⟩ := h
        exact ⟨v, s, L', e, d1, fun z => q (d2 z).1 (d2 z).2, r⟩
      · rename_i c2
        rw [if_neg c2]
        obtain ⟨v, s, L', e, d1, d2, r⟩ := h
        exact ⟨v, s, L', e, d1, fun z => q (d2 z).1 (d2 z).2, r⟩
theorem fxT_iff {t : TvT} : fxT t = true ↔ ¬ t.2.1 = 0 ∧ t.1 = 0 := by
  unfold fxT
  rw [Bool.and_eq_true, decide_eq_true_eq, decide_eq_true_eq]
theorem fx_1 : (Int64.ofNat ((1 : Fin 2) : Nat)) = 1 := by decide
theorem ze_0 : zerB = 0 := by decide
/-- both sides come together -/
theorem jn_c {T : TbT} {i : Nat} {more : Int64} {w : WzS} : CnD T (i : Int) (jnT (T.1 i) more w).1 (jnT (T.1 i) more w).2.1 ∧ (w.1 = allB → w.2.1 = allB → (jnT (T.1 i) more w).1 = allB ∧ (jnT (T.1 i) more w).2.1 = allB) ∧ (jnT (T.1 i) more w).2.2 = w.2.2 := by
  unfold CnD jnT
  rw [Int.toNat_natCast, fx_1, ze_0]
  dsimp only
  refine ⟨⟨fun t0 c0 => ⟨fun v => ?_, fun v => ?_⟩, fun t0 => ?_⟩, fun a b => ?_, rfl⟩
  · rw [if_pos (by rw [Bool.and_eq_true, fxT_iff, decide_eq_true_eq]; exact ⟨⟨c0, t0⟩, v⟩)]
  · rw [if_pos (by rw [Bool.and_eq_true, fxT_iff, decide_eq_true_eq]; exact ⟨⟨c0, t0⟩, v⟩)]
  · have n : ∀ b : Bool, ¬ (fxT (T.1 i) && b) = true := fun b q => by
      rw [Bool.and_eq_true, fxT_iff] at q
      exact t0 q.1.2
    rw [if_neg (n _), if_neg (n _)]
  · rw [a, b, an_id, al_or]
    constructor
    · split <;> rfl
    · split <;> rfl
theorem toA_l {m : Int64} {w : WzS} (h : w.2.2.1.length < 500) : (toA m w).2.2.1 = m :: w.2.2.1 := by unfold toA; rw [if_pos h]
/-- one exp or mark more -/
theorem aw_st {C : CxT} {z : ZS} {T : TbT} {A : Prop} (hJ : JdL C z T) {l : List ItZ} {x : XrZ} {G F : MkF} {w : WzS} (hi : xcZ l < xnM z) (hx : xth z (xcZ l) = x) (hk : 0 ≤ x.1.1 ∧ x.1.1 ≤ 15) (hS : MkS l x G F) (hG : G.length ≤ 100) (hF : F.length ≤ 100) (hc : LsO l → CnD T ((xcZ l : Int) - 1) w.1 w.2.1) (ha : ∀ q ∈ opsZ x, (0 ≤ q ∧ q < (xcZ l : Int)) ∧ VaT (T.1 q.toNat)) (h : AwR T A G w.2.2.1 w.1 w.2.1) : AwR T A F (paW x (T.1 (xcZ l)) w).2.2.1 (paW x (T.1 (xcZ l)) w).1 (paW x (T.1 (xcZ l)) w).2.1 ∧ (x.1.1 ≤ 10 → CnD T (xcZ l : Int) (paW x (T.1 (xcZ l)) w).1 (paW x (T.1 (xcZ l)) w).2.1) := by
  have hl := aw_len h
  obtain ⟨U, u1, u2⟩ := jd_x hJ hi
  rw [hx] at u1
  have uop : ∀ q : Int, 0 ≤ q → q < (xcZ l : Int) → opT U q = T.1 q.toNat := fun q a b => u2 _ (by omega)
  by_cases c11 : x.1.1 = 11
  · obtain ⟨ls, rfl⟩ := (mks_11 c11).mp hS
    have cn := hc ls
    refine ⟨?_, fun q => by omega⟩
    rw [pa_11 c11]
    by_cases s21 : x.1.2.1 = 21
    · rw [if_pos s21, if_pos s21]
      rw [AwR, if_neg (by decide), if_neg (by decide)]
      refine ⟨w.2.1, w.1, w.2.2.1, toA_l (by omega), cn, fun q => ⟨q, q⟩, h⟩
    · rw [if_neg s21, if_neg s21]
      rw [AwR, if_neg (by decide), if_pos rfl]
      refine ⟨w.1, w.2.1, w.2.2.1, toA_l (by omega), cn, fun q => ⟨q, q⟩, h⟩
  by_cases c12 : x.1.1 = 12
  · obtain ⟨ls, rfl⟩ := (mks_12 c12).mp hS
    have cn := hc ls
    refine ⟨?_, fun q => by omega⟩
    rw [pa_12 c12, AwR, if_neg (by decide), if_neg (by decide)]
    exact ⟨w.2.1, w.1, w.2.2.1, toA_l (by omega), cn, fun q => ⟨q, q⟩, h⟩
  by_cases c13 : x.1.1 = 13
  · obtain ⟨ls, q, H, rfl, rfl⟩ := (mks_13 c13).mp hS
    have cn := hc ls
    refine ⟨?_, fun q => by omega⟩
    rw [AwR, if_neg (by decide), if_neg (by decide)] at h
    obtain ⟨v, s, L', e, d1, d2, r⟩ := h
    rw [pa_13 c13]
    have fe := frA_c (w := w) e
    unfold elW
    rw [fe]
    dsimp only
    have e1 : (toA w.1 (w.1, w.2.1, L', w.2.2.2)).2.2.1 = w.1 :: L' := toA_l (by rw [e, List.length_cons] at hl; show L'.length < 500; omega)
    have e2 : (toA w.2.1 (toA w.1 (w.1, w.2.1, L', w.2.2.2))).2.2.1 = w.2.1 :: w.1 :: L' := by
      rw [toA_l (by rw [e1, List.length_cons]; rw [e, List.length_cons] at hl; omega), e1]
    rw [AwR, if_pos rfl]
    exact ⟨w.2.1, w.1, s, v, L', e2, ⟨d1, cn⟩, d2, fun z => ⟨z, z⟩, r⟩
  by_cases c7 : x.1.1 = 7 ∧ (x.1.2.1 = 20 ∨ x.1.2.1 = 21)
  · obtain ⟨ls, rfl, eb⟩ := (mks_7 c7).mp hS
    have cn := hc ls
    obtain ⟨oa, va⟩ := ha x.2.2.1.2.1 (by unfold opsZ; rw [if_neg (by omega), if_pos c7.1]; exact List.mem_cons_of_mem _ List.mem_cons_self)
    obtain ⟨ob, vb⟩ := ha x.2.2.1.2.2.1 (by unfold opsZ; rw [if_neg (by omega), if_pos c7.1]; exact List.mem_cons_self)
    rw [ex_7 c7.1] at u1
    unfold x7T at u1
    rw [eb] at ob vb
    rw [uop _ oa.1 oa.2, eb, uop _ ob.1 ob.2] at u1
    generalize hb : ((xcZ l : Int) - 1) = nb at cn u1 vb
    generalize hA : (T.1 x.2.2.1.2.1.toNat) = ea at u1 va
    split at u1
    · rename_i cc
      have te := Option.some.inj u1
      have l0 : ea.1 = 0 := by
        have lt := cc.1
        unfold ltT at lt
        rcases lt with lt | lt
        · exact lt.2
        · exact absurd (show x.1.2.1 = 20 ∨ x.1.2.1 = 21 from c7.2) lt.1
      have r0 : (T.1 nb.toNat).1 = 0 := by
        have rt := cc.2
        unfold rtT at rt
        rcases rt with rt | rt
        · exact rt.2
        · exact absurd l0 rt.1
      have T2 : ¬ (T.1 (xcZ l)).2.1 = 0 → ¬ ea.2.1 = 0 ∧ ¬ (T.1 nb.toNat).2.1 = 0 ∧ (T.1 (xcZ l)).2.2.1 = cvT x.1.2.1 (wrT x.1.2.1 ea.1 (T.1 nb.toNat).1) ea.2.2.1 (T.1 nb.toNat).2.2.1 := fun q => by
        rw [← te] at q ⊢
        have q : ¬ csT x.1.2.1 ea (T.1 nb.toNat) = 0 := q
        unfold csT at q
        split at q
        · rename_i c
          refine ⟨c.1, c.2.1, ?_⟩
          show (if csT x.1.2.1 _ _ = 1 then _ else _) = _
          rw [if_pos (by unfold csT; rw [if_pos c])]
        · exact absurd rfl q
      have T1 : (T.1 (xcZ l)).1 = 0 := by
        rw [← te]
        show (if 25 ≤ x.1.2.1 ∧ x.1.2.1 ≤ 30 then (0 : Int) else wrT _ _ _) = 0
        rw [if_neg (by omega)]
        unfold wrT
        rw [if_pos l0]
      have cb := cn.1 r0
      rcases c7.2 with s20 | s21
      · rw [if_neg (by omega), AwR, if_neg (by decide), if_pos rfl] at h
        obtain ⟨v, s, L', e, d1, d2, r⟩ := h
        unfold CnD at d1
        rw [hA] at d1
        have ca := d1.1 l0
        have fe := frA_c (w := w) e
        have pe : paW x (T.1 (xcZ l)) w = (w.1 &&& v, w.2.1, L', w.2.2.2) := by
          rw [pa_7 c7.1]
          unfold chW
          rw [if_neg (by omega), if_pos s20]
          unfold andT
          rw [fe]
        rw [pe]
        refine ⟨aw_mo r (fun hv hs => by obtain ⟨e1, e2⟩ := d2 hs; exact ⟨by show w.1 &&& v = allB; rw [e1, hv, an_id], e2⟩), fun _ => ⟨fun _ c0 => ?_, fun n => absurd (by rw [Int.toNat_natCast]; exact T1) n⟩⟩
        rw [Int.toNat_natCast] at c0 ⊢
        obtain ⟨n1, n2, n3⟩ := T2 c0
        rw [n3]
        have w1 := (va.2 n1).2 l0
        have w2 := (vb.2 n2).2 r0
        unfold cvT
        rw [if_neg (by omega), if_pos s20]
        refine ⟨fun q => ?_, fun q => ?_⟩
        · rcases w1 with w1 | w1
          · rcases w2 with w2 | w2
            · rw [w1, w2] at q
              exact absurd q (by decide)
            · exact (cb n2).1 w2
          · exact (d2 ((ca n1).1 w1)).2
        · rcases w1 with w1 | w1
          · rcases w2 with w2 | w2
            · show w.1 &&& v = allB
              rw [(ca n1).2 w1, (cb n2).2 w2, an_id]
            · rw [w1, w2] at q
              exact absurd q (by decide)
          · rcases w2 with w2 | w2 <;> rw [w1, w2] at q <;> exact absurd q (by decide)
      · rw [if_pos s21, AwR, if_neg (by decide), if_neg (by decide)] at h
        obtain ⟨v, s, L', e, d1, d2, r⟩ := h
        unfold CnD at d1
        rw [hA] at d1
        have ca := d1.1 l0
        have fe := frA_c (w := w) e
        have pe : paW x (T.1 (xcZ l)) w = (w.1, w.2.1 &&& v, L', w.2.2.2) := by
          rw [pa_7 c7.1]
          unfold chW
          rw [if_pos s21]
          unfold andF
          rw [fe]
        rw [pe]
        refine ⟨aw_mo r (fun hs hv => by obtain ⟨e1, e2⟩ := d2 hs; exact ⟨e1, by show w.2.1 &&& v = allB; rw [e2, hv, an_id]⟩), fun _ => ⟨fun _ c0 => ?_, fun n => absurd (by rw [Int.toNat_natCast]; exact T1) n⟩⟩
        rw [Int.toNat_natCast] at c0 ⊢
        obtain ⟨n1, n2, n3⟩ := T2 c0
        rw [n3]
        have w1 := (va.2 n1).2 l0
        have w2 := (vb.2 n2).2 r0
        unfold cvT
        rw [if_pos s21]
        refine ⟨fun q => ?_, fun q => ?_⟩
        · rcases w1 with w1 | w1
          · rcases w2 with w2 | w2 <;> rw [w1, w2] at q <;> exact absurd q (by decide)
          · rcases w2 with w2 | w2
            · rw [w1, w2] at q
              exact absurd q (by decide)
            · show w.2.1 &&& v = allB
              rw [(ca n1).1 w1, (cb n2).1 w2, an_id]
        · rcases w1 with w1 | w1
          · exact (d2 ((ca n1).2 w1)).1
          · rcases w2 with w2 | w2
            · exact (cb n2).2 w2
            · rw [w1, w2] at q
              exact absurd q (by decide)
    · cases u1
  by_cases c8 : x.1.1 = 8
  · obtain ⟨ls, rfl, ec⟩ := (mks_8 c8).mp hS
    have cn := hc ls
    have op : opsZ x = [x.2.2.1.2.2.2.1, x.2.2.1.2.2.1, x.2.2.1.2.1] := by unfold opsZ; rw [if_neg (by omega), if_neg (by omega), if_pos c8]
    obtain ⟨oq, vq_⟩ := ha x.2.2.1.2.1 (by rw [op]; exact List.mem_cons_of_mem _ (List.mem_cons_of_mem _ List.mem_cons_self))
    obtain ⟨oa, va⟩ := ha x.2.2.1.2.2.1 (by rw [op]; exact List.mem_cons_of_mem _ List.mem_cons_self)
    obtain ⟨oc, vc⟩ := ha x.2.2.1.2.2.2.1 (by rw [op]; exact List.mem_cons_self)
    rw [ex_8 c8] at u1
    unfold x8T at u1
    rw [ec] at oc vc
    rw [uop _ oq.1 oq.2, uop _ oa.1 oa.2, ec, uop _ oc.1 oc.2] at u1
    generalize hb : ((xcZ l : Int) - 1) = nc at cn u1 vc
    rw [AwR, if_pos rfl] at h
    obtain ⟨vf, vt, sq, vq, L', e, ⟨dq, da⟩, d2, d3, r⟩ := h
    unfold CnD at dq da
    generalize hQ : (T.1 x.2.2.1.2.1.toNat) = eq at u1 dq vq_
    generalize hA : (T.1 x.2.2.1.2.2.1.toNat) = ea at u1 da va
    split at u1
    · rename_i cc
      have te := Option.some.inj u1
      have pe : paW x (T.1 (xcZ l)) w = (w.1 &&& vt, w.2.1 &&& vf, L', w.2.2.2) := by
        rw [pa_8 c8]
        have f1 := frA_c (w := w) e
        unfold andF
        rw [f1]
        rfl
      rw [pe]
      refine ⟨aw_mo r (fun hs hv => by obtain ⟨e1, e2⟩ := d3 hv; obtain ⟨e3, e4⟩ := d2 hs; exact ⟨by show w.1 &&& vt = allB; rw [e1, e3, an_id], by show w.2.1 &&& vf = allB; rw [e2, e4, an_id]⟩), fun _ => ⟨fun t0 c0 => ?_, fun n => ?_⟩⟩
      · rw [Int.toNat_natCast] at t0 c0 ⊢
        rw [← te] at t0 c0 ⊢
        have t0 : ctT ea (T.1 nc.toNat) = 0 := t0
        have c0 : ¬ (if (¬ eq.2.1 = 0 ∧ ¬ ea.2.1 = 0) ∧ ¬ (T.1 nc.toNat).2.1 = 0 then (1 : Int) else 0) = 0 := c0
        have t1 : ea.1 = 0 ∧ (T.1 nc.toNat).1 = 0 := by
          have rt := cc.2
          unfold rtT at rt
          rcases rt with rt | rt
          · exact rt
          · exfalso
            unfold ctT at t0
            split at t0
            · exact rt.1 t0
            · split at t0
              · exact rt.1 t0
              · split at t0
                · have := rt.2
                  unfold nuT at this
                  omega
                · split at t0 <;> exact absurd t0 (by decide)
        split at c0
        · rename_i c3
          show ((if eq.2.2.1 = 1 then ea.2.2.1 else (T.1 nc.toNat).2.2.1) = 1 → w.2.1 &&& vf = allB) ∧ ((if eq.2.2.1 = 1 then ea.2.2.1 else (T.1 nc.toNat).2.2.1) = 0 → w.1 &&& vt = allB)
          have wq := (vq_.2 c3.1.1).2 cc.1.1
          have cq := dq.1 cc.1.1 c3.1.1
          have ca := da.1 t1.1 c3.1.2
          have ce := cn.1 t1.2 c3.2
          rcases wq with wq | wq
          · rw [wq, if_neg (by decide)]
            obtain ⟨e3, e4⟩ := d2 (cq.2 wq)
            rw [e3, e4, an_al, an_al]
            exact ce
          · rw [wq, if_pos rfl]
            obtain ⟨e3, e4⟩ := d3 (cq.1 wq)
            rw [e3, e4, al_an, al_an]
            exact ca
        · exact absurd rfl c0
      · rw [Int.toNat_natCast, ← te] at n
        have n : ¬ ctT ea (T.1 nc.toNat) = 0 := n
        have nn : ¬ ea.1 = 0 ∧ ¬ (T.1 nc.toNat).1 = 0 := by
          have rt := cc.2
          unfold rtT at rt
          rcases rt with rt | rt
          · exfalso
            refine n ?_
            unfold ctT
            rw [if_pos (by rw [rt.1, rt.2])]
            exact rt.1
          · have := rt.2
            unfold nuT at this
            exact ⟨rt.1, by omega⟩
        show w.1 &&& vt = w.2.1 &&& vf
        rw [da.2 nn.1, cn.2 nn.2]
    · cases u1
  by_cases c3 : x.1.1 = 3 ∨ x.1.1 = 4 ∨ x.1.1 = 5
  · obtain ⟨⟨ls, ea⟩, rfl⟩ := (mks_3 c3).mp hS
    have cn := hc ls
    obtain ⟨oa, va⟩ := ha x.2.2.1.2.1 (by unfold opsZ; rw [if_pos (by omega)]; exact List.mem_cons_self)
    rw [ea] at oa va
    generalize hb : ((xcZ l : Int) - 1) = na at cn oa va ea
    by_cases k3 : x.1.1 = 3
    · rw [ex_3 k3] at u1
      unfold x3T at u1
      rw [ea, uop _ oa.1 (by omega)] at u1
      have te := Option.some.inj u1
      rw [pa_3 k3]
      refine ⟨h, fun _ => ?_⟩
      unfold CnD at cn ⊢
      rw [Int.toNat_natCast, ← te]
      refine ⟨fun t0 c0 => ?_, fun n => cn.2 n⟩
      have t0 : (T.1 na.toNat).1 = 0 := t0
      have r := cn.1 t0 c0
      show (nrT (T.1 na.toNat).1 (T.1 na.toNat).2.2.1 = 1 → _) ∧ (nrT (T.1 na.toNat).1 (T.1 na.toNat).2.2.1 = 0 → _)
      rw [(va.2 c0).1]
      exact r
    by_cases k4 : x.1.1 = 4
    · rw [ex_4 k4] at u1
      unfold x4T at u1
      rw [ea, uop _ oa.1 (by omega)] at u1
      split at u1
      · rename_i cc
        have te := Option.some.inj u1
        rw [pa_4 k4]
        by_cases s39 : x.1.2.1 = 39
        · rw [if_pos s39]
          have t0 : (T.1 na.toNat).1 = 0 := by
            rcases cc with c | c
            · exact c.2
            · exact absurd s39 c.1
          refine ⟨aw_mo h (fun a b => ⟨b, a⟩), fun _ => ?_⟩
          unfold CnD at cn ⊢
          rw [Int.toNat_natCast, ← te]
          refine ⟨fun _ c0 => ?_, fun n => absurd (show auT x.1.2.1 (T.1 na.toNat).1 = 0 by unfold auT; rw [if_pos s39]; exact t0) n⟩
          have c0 : ¬ (T.1 na.toNat).2.1 = 0 := c0
          have r := cn.1 t0 c0
          have w1 := (va.2 c0).2 t0
          show (alT x.1.2.1 _ (T.1 na.toNat).2.2.1 = 1 → w.1 = allB) ∧ (alT x.1.2.1 _ (T.1 na.toNat).2.2.1 = 0 → w.2.1 = allB)
          unfold alT
          rw [s39, if_neg (by decide), if_neg (by decide), if_pos rfl]
          rcases w1 with w1 | w1
          · rw [w1]
            exact ⟨fun _ => r.2 w1, fun q => absurd q (by decide)⟩
          · rw [w1]
            exact ⟨fun q => absurd q (by decide), fun _ => r.1 w1⟩
        · rw [if_neg s39]
          have nu : nuT (T.1 na.toNat).1 := by
            rcases cc with c | c
            · exact absurd c.1 s39
            · exact c.2
          unfold nuT at nu
          refine ⟨h, fun _ => ?_⟩
          unfold CnD at cn ⊢
          rw [Int.toNat_natCast, ← te]
          refine ⟨fun t0 => ?_, fun _ => cn.2 (by omega)⟩
          have t0 : auT x.1.2.1 (T.1 na.toNat).1 = 0 := t0
          unfold auT pmT at t0
          rw [if_neg s39] at t0
          split at t0 <;> exact absurd t0 (by decide)
      · cases u1
    · have k5 : x.1.1 = 5 := by omega
      rw [pa_o (by omega)]
      obtain ⟨j1, j2, j3⟩ := jn_c (T := T) (i := xcZ l) (more := zerB) (w := w)
      rw [j3]
      exact ⟨aw_mo h j2, fun _ => j1⟩
  · have e := (mks_o (by omega)).mp hS
    subst e
    have jn : ∀ (more : Int64) (w' : WzS), w'.1 = w.1 → w'.2.1 = w.2.1 → w'.2.2.1 = w.2.2.1 → paW x (T.1 (xcZ l)) w = jnT (T.1 (xcZ l)) more w' → AwR T A F (paW x (T.1 (xcZ l)) w).2.2.1 (paW x (T.1 (xcZ l)) w).1 (paW x (T.1 (xcZ l)) w).2.1 ∧ (x.1.1 ≤ 10 → CnD T (xcZ l : Int) (paW x (T.1 (xcZ l)) w).1 (paW x (T.1 (xcZ l)) w).2.1) := fun more w' e1 e2 e3 e4 => by
      rw [e4]
      obtain ⟨j1, j2, j3⟩ := jn_c (T := T) (i := xcZ l) (more := more) (w := w')
      rw [j3, e3]
      exact ⟨aw_mo h (by rw [← e1, ← e2]; exact j2), fun _ => j1⟩
    by_cases k2 : x.1.1 = 2 ∨ x.1.1 = 14 ∨ x.1.1 = 6
    · refine jn zerB (if (T.1 (xcZ l)).2.1 = 0 ∧ 0 ≤ x.2.1.2.1 ∧ hasQ (w.1 &&& w.2.1) x.2.1.2.1 = false then erW w else w) ?_ ?_ ?_ (pa_2 k2)
      all_goals (split <;> rfl)
    · by_cases k9 : x.1.1 = 9
      · exact jn _ w rfl rfl rfl (pa_9 k9)
      · by_cases k7 : x.1.1 = 7
        · refine jn zerB w rfl rfl rfl ((pa_7 k7).trans ?_)
          unfold chW
          rw [if_neg (fun q => c7 ⟨k7, Or.inr q⟩), if_neg (fun q => c7 ⟨k7, Or.inl q⟩)]
        · exact jn zerB w rfl rfl rfl (pa_o (by omega))
