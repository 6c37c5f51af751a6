/-! what each code asks is what its S asks: by its kind -/
theorem acz_i {r : XrZ} : ¬ acZ r = 0 ↔ (r.1.1 = 9 ∨ r.1.1 = 6 ∨ r.1.1 = 10) := by
  unfold acZ
  by_cases c : r.1.1 = 9 ∨ r.1.1 = 6 ∨ r.1.1 = 10
  · rw [if_pos c]; exact ⟨fun _ => c, fun _ => by decide⟩
  · rw [if_neg c]; exact ⟨fun q => absurd rfl q, fun q => absurd q c⟩
/-- inside of an S -/
def RsI (C : CxT) (N : Int → Int) (Z : ZS) (T : TbT) (ms : MfT) (j : Nat) (l : List ItZ) (q : Ps) : Prop := (AlB (okS C N T) l q.2.2 ↔ SkB N Z T ms j q.1) ∧ Nb l q.2.2 ∧ j < q.1
abbrev StOk (C : CxT) (N : Int → Int) (Z : ZS) (T : TbT) (ms : MfT) (M : Int) (St : SsT) : Prop := ∀ a p q, St a p q → (PgD (-1) p q ∧ p.1 < q.1) ∧ (KxD N Z M a p q → RsD C N Z T ms p q)
abbrev RwOk (C : CxT) (N : Int → Int) (Z : ZS) (T : TbT) (ms : MfT) (M : Int) (Rw : RsT) : Prop := ∀ a L p q, Rw 0 0 a L p q → (p.2.2 <:+ q.2.2 ∧ p.1 ≤ q.1 ∧ PgD (-1) p q) ∧ (KxD N Z M a p q → RsD C N Z T ms p q)
section
variable {N : Int → Int} {Z : ZS} {T : TbT} {ms : MfT} {C : CxT} {M a lv t c : Int} {j k : Nat} {l : List ItZ} {q : Ps} {St : SsT} {Rw : RsT}
/-- an exp that is a condition -/
theorem cd_i {m l : List ItZ} {r : XrZ} {o b e d : Int} (hx : ExX lv l m r) (ho : o = 23 ∨ o = 27 ∨ o = 31 ∨ (o = 33 ∧ ¬ d = 0)) (hk : kjS Z j = 56 ∨ kjS Z j = 58 ∨ kjS Z j = 59 ∨ kjS Z j = 60) (hxj : xjS Z j = (xcZ m : Int) - 1) : okS C N T m (o, b, d, e, (xcZ m : Int) - 1) ↔ skT N Z T ms j := by
  rw [ok_cd ho, skk_cd hk, hxj]
  exact ⟨fun h _ => h, fun h => h hx.nn.2.1⟩
theorem xs_i {m l : List ItZ} {r : XrZ} {b e : Int} (hx : ExX lv l m r) (hZ : m <:+ Z.2.1) (hk : kjS Z j = 90 ∨ kjS Z j = 94) (hxj : xjS Z j = (xcZ m : Int) - 1) : okS C N T m (21, acZ r, b, e, (xcZ m : Int) - 1) ↔ skT N Z T ms j := by
  have e1 := hx.nn
  have e2 : xth Z ((xcZ m : Int) - 1).toNat = r := by
    unfold xth
    rw [e1.1]
    exact hx.at hZ
  rw [ok_21, skk_90 hk, hxj, e2, acz_i]
  exact ⟨fun h _ => h, fun h => h e1.2.1⟩
theorem ri_xs (h : XsD Z lv a j k t l q) (hZ : q.2.2 <:+ Z.2.1) : RsI C N Z T ms j l q := by
  obtain ⟨m, r, hx, R, rfl⟩ := h
  refine ⟨?_, hx.nb.tr (nb_ce (by decide)), Nat.lt_succ_self _⟩
  rw [skb_1, ← xs_i (C := C) (b := 0) (e := r.1.2.2.1) hx ((List.suffix_cons _ _).trans hZ) (Or.inl R.kj) R.xj]
  exact (alb_e hx.sf).trans ⟨fun q => q.2, fun q => ⟨alb_ex hx, q⟩⟩
theorem va_i {h : Int × Int × Int × Int} {th : Int} {l m : List ItZ} (v : VaD Z j h th l m) : AlB (okS C N T) l m ∧ Nb l m ∧ (reS Z j).1 = h := by
  obtain ⟨v, t, _, hv⟩ := v
  rcases hv with ⟨R, rfl⟩ | ⟨m0, r, x, hx, R, _, rfl⟩
  · exact ⟨alb_1.mpr (ok_t (Or.inl (by show TrO 22; omega))), nb_ci (by decide), R.1⟩
  · refine ⟨?_, (nb_ci (by decide)).tr (hx.nb.tr nb_l), R.1⟩
    rw [alb_tr (l' := m0) ((List.suffix_cons _ _).trans hx.sf) (List.suffix_cons _ _)]
    refine ⟨?_, alb_xs XsR.pu⟩
    rw [ok_ci hx.sf (by omega)]
    exact alb_ex hx
theorem ri_to (h : ToD Z lv a j k t l q) : RsI C N Z T ms j l q := by
  obtain ⟨m, hv, rfl⟩ := h
  obtain ⟨v1, v2, v3⟩ := va_i (C := C) (N := N) (T := T) hv
  refine ⟨iff_of_true v1 (skb_1.mpr (skk_tr ?_)), v2, Nat.lt_succ_self _⟩
  have e : kjS Z j = 91 := congrArg (fun v : Int × Int × Int × Int => v.1) v3
  omega
theorem ri_em (h : EmD Z lv a j k t l q) : RsI C N Z T ms j l q := by
  obtain ⟨R, rfl⟩ := h
  refine ⟨iff_of_true alb_rf (skb_1.mpr (skk_tr ?_)), Nb.rf, Nat.lt_succ_self _⟩
  have e := R.kj
  omega
theorem ri_bl (hR : RwOk C N Z T ms M Rw) (H : HxD C Z ms M) (h : BlD Rw Z lv a j k t (cIy 20 0 0 t :: l) q) (K : KxD N Z M a (j, k, l) (q.1, q.2.1, cIy 45 c 0 t :: q.2.2)) : RsI C N Z T ms j (cIy 20 0 0 t :: l) q := by
  obtain ⟨L, hr, R⟩ := h
  obtain ⟨⟨s1, s2, _⟩, s3⟩ := hR _ _ _ _ hr
  have s2 : j + 1 ≤ q.1 := s2
  have e := R.kj
  obtain ⟨r1, r2, r3⟩ := s3 (K.in_ H rfl (by omega) R.pa (List.suffix_cons _ _) (Nat.le_refl _) (Nat.lt_succ_self _) (nb_ci (by decide)) (by show j < q.1; omega) ((K.2.2.2.2.2.mo (Nat.le_succ _)).c0 rfl))
  refine ⟨r1.trans ?_, r2, by omega⟩
  rw [skb_c (i := j) (j := q.1) (by omega)]
  exact ⟨fun z => ⟨skk_tr (by omega), z⟩, fun z => z.2⟩
theorem ri_la (hS : StOk C N Z T ms M St) (H : HxD C Z ms M) (h : LaD St Z lv a j k t (cIy 20 0 0 t :: l) q) (K : KxD N Z M a (j, k, l) (q.1, q.2.1, cIy 45 c 0 t :: q.2.2)) : RsI C N Z T ms j (cIy 20 0 0 t :: l) q := by
  obtain ⟨q1, hs, R, rfl⟩ := h
  obtain ⟨⟨s1, s2⟩, s3⟩ := hS _ _ _ hs
  have s2 : j + 1 < q1.1 := s2
  have e := R.kj
  obtain ⟨r1, r2, r3⟩ := s3 (K.la (k := k) H R.kj R.lj R.pa ((List.suffix_cons _ _).trans (List.suffix_cons _ _)) (Nat.le_refl _) (Nat.lt_succ_self _) rfl rfl (by show j < q1.1; omega) (((K.2.2.2.2.2.mo (Nat.le_succ _)).c0 rfl).ci (fun _ => by show (k : Int) < ((k + 1 : Nat) : Int); omega)))
  have sf : (cIy 41 k 0 t :: cIy 20 0 0 t :: l) <:+ q1.2.2 := s1.sf
  refine ⟨?_, ⟨((List.suffix_cons _ _).trans sf).trans (List.suffix_cons _ _), ?_, ?_⟩, by show j < q1.1; omega⟩
  · show AlB (okS C N T) (cIy 20 0 0 t :: l) (cIy 42 k 0 t :: q1.2.2) ↔ SkB N Z T ms j q1.1
    rw [ok_ei ((List.suffix_cons _ _).trans sf) (by omega), skb_c (by omega), ← r1]
    refine (alb_c sf).trans (and_congr ?_ Iff.rfl)
    rw [ok_41, skk_6 R.kj, R.lj, R.pa]
    exact K.2.2.2.2.1 t
  · show (lbZ q1.2.2).tail = _
    rw [r2.2.1]
    rfl
  · show mdZ q1.2.2 = _
    rw [r2.2.2]
    rfl
theorem ri_if (hS : StOk C N Z T ms M St) (H : HxD C Z ms M) (h : IfD St Z lv a j k t (cIy 20 0 0 t :: l) q) (K : KxD N Z M a (j, k, l) (q.1, q.2.1, cIy 45 c 0 t :: q.2.2)) : RsI C N Z T ms j (cIy 20 0 0 t :: l) q := by
  obtain ⟨m, r, q1, hx, hs, hor⟩ := h
  obtain ⟨⟨s1, s2⟩, s3⟩ := hS _ _ _ hs
  have s2 : j + 1 < q1.1 := s2
  have sf : (cEy 23 k 0 t m :: m) <:+ q1.2.2 := s1.sf
  have th1 : ThB (cEy 23 k 0 t m :: m) (k + 1) := (((K.2.2.2.2.2.mo (Nat.le_succ _)).c0 rfl).ex hx).ce (fun _ => by show (k : Int) < ((k + 1 : Nat) : Int); omega)
  have nb1 : Nb l (cEy 23 k 0 t m :: m) := (nb_ci (by decide)).tr (hx.nb.tr (nb_ce (by decide)))
  rcases hor with ⟨R, rfl⟩ | ⟨t2, q2, hs2, R, rfl⟩
  · have e := R.kj
    obtain ⟨r1, r2, r3⟩ := s3 (K.in_ H rfl (by omega) R.pa ((List.suffix_cons _ _).trans (List.suffix_cons _ _)) (Nat.le_refl _) (Nat.lt_succ_self _) nb1 (by show j < q1.1; omega) th1)
    refine ⟨?_, (hx.nb.tr (nb_ce (by decide))).tr (r2.tr (nb_ci (by decide))), by show j < q1.1; omega⟩
    show AlB (okS C N T) (cIy 20 0 0 t :: l) (cIy 25 k 0 t :: q1.2.2) ↔ SkB N Z T ms j q1.1
    rw [ok_ei (hx.sf.trans ((List.suffix_cons _ _).trans sf)) (by omega), alb_m hx ((List.suffix_cons _ _).trans sf), skb_c (by omega), ← r1, ← cd_i (C := C) (o := 23) (b := k) (d := 0) (e := t) hx (Or.inl rfl) (by omega) R.xj]
    exact alb_c sf
  · obtain ⟨⟨u1, u2⟩, u3⟩ := hS _ _ _ hs2
    have u2 : q1.1 < q2.1 := u2
    have sf2 : (cIy 24 k 0 t2 :: q1.2.2) <:+ q2.2.2 := u1.sf
    have e := R.kj
    obtain ⟨r1, r2, r3⟩ := s3 (K.in_ H rfl (by omega) R.pa (((List.suffix_cons _ _).trans sf2).trans ((List.suffix_cons _ _).trans (List.suffix_cons _ _))) (by show q1.1 ≤ q2.1; omega) (Nat.lt_succ_self _) nb1 (by show j < q2.1; omega) th1)
    have nb2 : Nb l (cIy 24 k 0 t2 :: q1.2.2) := nb1.tr (r2.tr (nb_ci (by decide)))
    obtain ⟨v1, v2, v3⟩ := u3 (K.in_ H rfl (by omega) R.pa ((List.suffix_cons _ _).trans (List.suffix_cons _ _)) (Nat.le_refl _) (by show j < q1.1; omega) nb2 (by show j < q2.1; omega) ((th1.pg (p := (j + 1, k + 1, cEy 23 k 0 t m :: m)) s1 (by omega)).ci (fun _ => by have := s1.2.1; have : k + 1 ≤ q1.2.1 := this; omega)))
    refine ⟨?_, (hx.nb.tr (nb_ce (by decide))).tr (r2.tr ((nb_ci (by decide)).tr (v2.tr (nb_ci (by decide))))), by show j < q2.1; omega⟩
    show AlB (okS C N T) (cIy 20 0 0 t :: l) (cIy 25 k 0 t :: q2.2.2) ↔ SkB N Z T ms j q2.1
    have g1 : m <:+ q1.2.2 := (List.suffix_cons _ _).trans sf
    have g2 : q1.2.2 <:+ q2.2.2 := (List.suffix_cons _ _).trans sf2
    rw [ok_ei (hx.sf.trans (g1.trans g2)) (by omega), alb_m hx (g1.trans g2), alb_tr g1 g2, skb_c (by omega), skb_tr (i := j + 1) (j := q1.1) (by omega) (by omega), ← r1, ← v1, ok_ci sf2 (by omega), ← cd_i (C := C) (o := 23) (b := k) (d := 0) (e := t) hx (Or.inl rfl) (by omega) R.xj, ← and_assoc]
    exact and_congr (alb_c sf) Iff.rfl
theorem ri_wh (hS : StOk C N Z T ms M St) (H : HxD C Z ms M) (h : WhD St Z lv a j k t (cIy 20 0 0 t :: l) q) (K : KxD N Z M a (j, k, l) (q.1, q.2.1, cIy 45 c 0 t :: q.2.2)) : RsI C N Z T ms j (cIy 20 0 0 t :: l) q := by
  obtain ⟨m, r, q1, hx, hs, R, rfl⟩ := h
  obtain ⟨⟨s1, s2⟩, s3⟩ := hS _ _ _ hs
  have s2 : j + 1 < q1.1 := s2
  have sf : (cEy 27 k 0 t m :: m) <:+ q1.2.2 := s1.sf
  have nb0 : Nb (cIy 20 0 0 t :: l) (cEy 27 k 0 t m :: m) := (nb_ci (by decide)).tr (hx.nb.tr (nb_ce (by decide)))
  have e := R.kj
  obtain ⟨r1, r2, r3⟩ := s3 (K.in_ H rfl (by omega) R.pa ((List.suffix_cons _ _).trans (List.suffix_cons _ _)) (Nat.le_refl _) (Nat.lt_succ_self _) ((nb_ci (by decide)).tr nb0) (by show j < q1.1; omega) (((((K.2.2.2.2.2.mo (Nat.le_succ _)).c0 rfl).ci (fun _ => by show (k : Int) < ((k + 1 : Nat) : Int); omega)).ex hx).ce (fun _ => by show (k : Int) < ((k + 1 : Nat) : Int); omega)))
  refine ⟨?_, nb0.tr (r2.tr (nb_ci (by decide))), by show j < q1.1; omega⟩
  show AlB (okS C N T) (cIy 20 0 0 t :: l) (cIy 28 k 0 t :: q1.2.2) ↔ SkB N Z T ms j q1.1
  have g1 : m <:+ q1.2.2 := (List.suffix_cons _ _).trans sf
  rw [ok_ei ((List.suffix_cons _ _).trans (hx.sf.trans g1)) (by omega), ok_ci (hx.sf.trans g1) (by omega), alb_m hx g1, skb_c (by omega), ← r1, ← cd_i (C := C) (o := 27) (b := k) (d := 0) (e := t) hx (by omega) (by omega) R.xj]
  exact alb_c sf
theorem ri_do (hS : StOk C N Z T ms M St) (H : HxD C Z ms M) (h : DoD St Z lv a j k t (cIy 20 0 0 t :: l) q) (K : KxD N Z M a (j, k, l) (q.1, q.2.1, cIy 45 c 0 t :: q.2.2)) : RsI C N Z T ms j (cIy 20 0 0 t :: l) q := by
  obtain ⟨m, r, q1, hs, hx, R, rfl⟩ := h
  obtain ⟨⟨s1, s2⟩, s3⟩ := hS _ _ _ hs
  have s2 : j + 1 < q1.1 := s2
  have sf : (cIy 29 k 0 t :: cIy 20 0 0 t :: l) <:+ q1.2.2 := s1.sf
  have nb0 : Nb (cIy 20 0 0 t :: l) (cIy 29 k 0 t :: cIy 20 0 0 t :: l) := nb_ci (by decide)
  have e := R.kj
  have g1 : q1.2.2 <:+ m := (List.suffix_cons _ _).trans hx.sf
  obtain ⟨r1, r2, r3⟩ := s3 (K.in_ H rfl (by omega) R.pa (g1.trans ((List.suffix_cons _ _).trans (List.suffix_cons _ _))) (Nat.le_refl _) (Nat.lt_succ_self _) ((nb_ci (by decide)).tr nb0) (by show j < q1.1; omega) (((K.2.2.2.2.2.mo (Nat.le_succ _)).c0 rfl).ci (fun _ => by show (k : Int) < ((k + 1 : Nat) : Int); omega)))
  refine ⟨?_, nb0.tr (r2.tr ((nb_ci (by decide)).tr (hx.nb.tr (nb_ce (by decide))))), by show j < q1.1; omega⟩
  show AlB (okS C N T) (cIy 20 0 0 t :: l) (cEy 31 k 0 t m :: m) ↔ SkB N Z T ms j q1.1
  have g0 : (cIy 20 0 0 t :: l) <:+ q1.2.2 := (List.suffix_cons _ _).trans sf
  have a1 : AlB (okS C N T) q1.2.2 m := (ok_ci hx.sf (by omega)).mpr (alb_ex hx)
  rw [skb_c (by omega), ← r1, ← cd_i (C := C) (o := 31) (b := k) (d := 0) (e := t) hx (by omega) (by omega) R.xj]
  refine (alb_e (g0.trans g1)).trans ?_
  rw [alb_tr g0 g1, ok_ci sf (by omega)]
  exact ⟨fun q => ⟨q.2, q.1.1⟩, fun q => ⟨⟨q.2, a1⟩, q.1⟩⟩
end
