/-! what each code asks is what its S asks: for, try, jumps, return, throw; rows -/
section
variable {N : Int → Int} {Z : ZS} {T : TbT} {ms : MfT} {C : CxT} {M a lv t c : Int} {j k : Nat} {l : List ItZ} {q : Ps} {St : SsT} {Rw : RsT}
theorem fx_sf {Z : ZS} {lv a : Int} : ∀ {L : List Nat} {p q : Ps}, FxD Z lv a L p q → Nb p.2.2 q.2.2 ∧ p.1 ≤ q.1 ∧ p.2.1 = q.2.1 ∧ XsR [] [] := by
  intro L
  induction L with
  | nil => intro p q h; rw [show q = p from h]; exact ⟨Nb.rf, Nat.le_refl _, rfl, XsR.rf⟩
  | cons j L ih =>
    intro p q ⟨_, _, t, m, r, _, hx, h⟩
    obtain ⟨i1, i2, i3, i4⟩ := ih h
    have i2 : p.1 + 1 ≤ q.1 := i2
    exact ⟨(hx.nb.tr (nb_ce (by decide))).tr i1, by omega, i3, i4⟩
theorem fx_i {Z : ZS} {lv a : Int} : ∀ {L : List Nat} {p q : Ps}, FxD Z lv a L p q → q.2.2 <:+ Z.2.1 → (AlB (okS C N T) p.2.2 q.2.2 ↔ SkB N Z T ms p.1 q.1) := by
  intro L
  induction L with
  | nil => intro p q h _; rw [show q = p from h]; exact iff_of_true alb_rf skb_0
  | cons j L ih =>
    intro p q ⟨e1, _, t, m, r, R, hx, h⟩ hZ
    have s := (fx_sf h).1.1
    have s : (cEy 21 (acZ r) 0 r.1.2.2.1 m :: m) <:+ q.2.2 := s
    have s2 : p.1 + 1 ≤ q.1 := (fx_sf h).2.1
    have r1 := ih h hZ
    have r1 : AlB (okS C N T) (cEy 21 (acZ r) 0 r.1.2.2.1 m :: m) q.2.2 ↔ SkB N Z T ms (p.1 + 1) q.1 := r1
    rw [skb_c (i := p.1) (by omega), ← r1, alb_m hx ((List.suffix_cons _ _).trans s), ← xs_i (C := C) (b := 0) (e := r.1.2.2.1) hx ((List.suffix_cons _ _).trans (s.trans hZ)) (Or.inr (e1 ▸ R.kj)) (e1 ▸ R.xj)]
    exact alb_c s
theorem fx_th {Z : ZS} {lv a : Int} : ∀ {L : List Nat} {p q : Ps} {k : Nat}, FxD Z lv a L p q → ThB p.2.2 k → ThB q.2.2 k := by
  intro L
  induction L with
  | nil => intro p q k h g; rw [show q = p from h]; exact g
  | cons j L ih =>
    intro p q k ⟨_, _, t, m, r, _, hx, h⟩ g
    exact ih h ((g.ex hx).e0 rfl)
theorem va_th {h : Int × Int × Int × Int} {th : Int} {l m : List ItZ} {k : Nat} (v : VaD Z j h th l m) (g : ThB l k) : ThB m k := by
  obtain ⟨v, t, _, hv⟩ := v
  rcases hv with ⟨R, rfl⟩ | ⟨m0, r, x, hx, R, _, rfl⟩
  · exact g.c0 rfl
  · exact ((g.c0 rfl).ex hx).l
theorem fi_i {o : Int} {p q : Ps} (h : FiD Z lv j o p q) (hZ : q.2.2 <:+ Z.2.1) : (AlB (okS C N T) p.2.2 q.2.2 ↔ SkB N Z T ms p.1 q.1) ∧ Nb p.2.2 q.2.2 ∧ p.1 ≤ q.1 ∧ p.2.1 = q.2.1 ∧ ∀ k, ThB p.2.2 k → ThB q.2.2 k := by
  rcases h with ⟨_, rfl⟩ | ⟨_, t, m, hv, _, rfl⟩ | ⟨L, _, _, h⟩
  · exact ⟨iff_of_true alb_rf skb_0, Nb.rf, Nat.le_refl _, rfl, fun _ g => g⟩
  · obtain ⟨v1, v2, v3⟩ := va_i (C := C) (N := N) (T := T) hv
    refine ⟨iff_of_true v1 (skb_1.mpr (skk_tr ?_)), v2, Nat.le_succ _, rfl, fun k g => va_th hv g⟩
    have e : kjS Z p.1 = 93 := congrArg (fun v : Int × Int × Int × Int => v.1) v3
    omega
  · exact ⟨fx_i h hZ, (fx_sf h).1, (fx_sf h).2.1, (fx_sf h).2.2.1, fun k g => fx_th h g⟩
theorem fc_i {x : Int} {l m : List ItZ} (h : FcD lv k t x l m) (hk : kjS Z j = 60) (hx : xjS Z j = x) : (AlB (okS C N T) l m ↔ skT N Z T ms j) ∧ Nb l m ∧ ∀ k', k < k' → ThB l k' → ThB m k' := by
  rcases h with ⟨rfl, rfl⟩ | ⟨m0, r, h1, rfl, rfl⟩
  · refine ⟨iff_of_true (alb_1.mpr (ok_t (Or.inr ⟨rfl, rfl⟩))) ?_, nb_ci (by decide), fun k' h g => g.ci (fun _ => by omega)⟩
    rw [skk_cd (by omega), hx]
    exact fun q => absurd q (by decide)
  · refine ⟨?_, h1.nb.tr (nb_ce (by decide)), fun k' h g => (g.ex h1).ce (fun _ => by omega)⟩
    rw [← cd_i (C := C) (o := 33) (b := k) (d := 1) (e := t) h1 (Or.inr (Or.inr (Or.inr ⟨rfl, by decide⟩))) (by omega) hx]
    exact (alb_e h1.sf).trans ⟨fun q => q.2, fun q => ⟨alb_ex h1, q⟩⟩
theorem ri_fo (hS : StOk C N Z T ms M St) (H : HxD C Z ms M) (h : FoD St Z lv a j k t (cIy 20 0 0 t :: l) q) (K : KxD N Z M a (j, k, l) (q.1, q.2.1, cIy 45 c 0 t :: q.2.2)) : RsI C N Z T ms j (cIy 20 0 0 t :: l) q := by
  obtain ⟨q1, q3, q4, m2, o, g, x, h1, h2, ⟨L, hg, h3⟩, hs, R, rfl⟩ := h
  obtain ⟨⟨s1, s2⟩, s3⟩ := hS _ _ _ hs
  have s2 : q3.1 < q4.1 := s2
  have e := R.kj
  have sf4 : (cIy 35 k 0 t :: q3.2.2) <:+ q4.2.2 := s1.sf
  have sfZ : q4.2.2 <:+ Z.2.1 := ((List.suffix_cons _ _).trans (List.suffix_cons _ _)).trans K.1
  have g34 : q3.2.2 <:+ q4.2.2 := (List.suffix_cons _ _).trans sf4
  have n3 := (fx_sf h3).1
  have n3' : (cIy 34 k 0 t :: m2) <:+ q3.2.2 := n3.1
  have g23 : m2 <:+ q3.2.2 := (List.suffix_cons _ _).trans n3'
  obtain ⟨c1, c2, c3⟩ := fc_i (C := C) (N := N) (T := T) (ms := ms) h2 R.kj R.xj
  have c2' : (cIy 32 k 0 t :: q1.2.2) <:+ m2 := c2.1
  have g12 : q1.2.2 <:+ m2 := (List.suffix_cons _ _).trans c2'
  obtain ⟨i1, i2, i3, i4, i5⟩ := fi_i (C := C) (N := N) (T := T) (ms := ms) h1 ((g12.trans (g23.trans g34)).trans sfZ)
  have f3 := fx_i (C := C) (N := N) (T := T) (ms := ms) h3 (g34.trans sfZ)
  have f3 : AlB (okS C N T) (cIy 34 k 0 t :: m2) q3.2.2 ↔ SkB N Z T ms q1.1 q3.1 := f3
  have i3 : j + 1 ≤ q1.1 := i3
  have l3 : q1.1 ≤ q3.1 := (fx_sf h3).2.1
  have e3 : q1.2.1 = q3.2.1 := (fx_sf h3).2.2.1
  have i4 : k + 1 = q1.2.1 := i4
  have th0 : ThB (cIy 20 0 0 t :: l) (k + 1) := (K.2.2.2.2.2.mo (Nat.le_succ _)).c0 rfl
  have thk : (k : Int) < ((k + 1 : Nat) : Int) := by omega
  have th3 : ThB (cIy 35 k 0 t :: q3.2.2) q3.2.1 := by
    rw [← e3, ← i4]
    exact (fx_th h3 ((c3 (k + 1) (Nat.lt_succ_self _) ((i5 (k + 1) th0).ci (fun _ => thk))).ci (fun _ => thk))).ci (fun _ => thk)
  have nbi : Nb (cIy 20 0 0 t :: l) q3.2.2 := i2.tr (((nb_ci (by decide)).tr c2).tr ((nb_ci (by decide)).tr n3))
  obtain ⟨r1, r2, r3⟩ := s3 (K.in_ H rfl (by omega) R.pa ((List.suffix_cons _ _).trans (List.suffix_cons _ _)) (Nat.le_refl _) (by show j < q3.1; omega) ((nb_ci (by decide)).tr (nbi.tr (nb_ci (by decide)))) (by show j < q4.1; omega) th3)
  have r1 : AlB (okS C N T) (cIy 35 k 0 t :: q3.2.2) q4.2.2 ↔ SkB N Z T ms q3.1 q4.1 := r1
  have i1 : AlB (okS C N T) (cIy 20 0 0 t :: l) q1.2.2 ↔ SkB N Z T ms (j + 1) q1.1 := i1
  refine ⟨?_, nbi.tr ((nb_ci (by decide)).tr (r2.tr (nb_ci (by decide)))), by show j < q4.1; omega⟩
  show AlB (okS C N T) (cIy 20 0 0 t :: l) (cIy 36 k 0 t :: q4.2.2) ↔ SkB N Z T ms j q4.1
  rw [ok_ei (i2.1.trans (g12.trans (g23.trans g34))) (by omega), alb_tr i2.1 (g12.trans (g23.trans g34)), alb_tr g12 (g23.trans g34), alb_tr g23 g34, ok_ci c2' (by omega), ok_ci n3' (by omega), ok_ci sf4 (by omega), skb_c (i := j) (j := q4.1) (by omega), skb_tr (i := j + 1) (j := q1.1) (k := q4.1) (by omega) (by omega), skb_tr (i := q1.1) (j := q3.1) (k := q4.1) (by omega) (by omega), i1, c1, f3, r1]
  exact ⟨fun z => ⟨z.2.1, z.1, z.2.2⟩, fun z => ⟨z.2.1, z.1, z.2.2⟩⟩
theorem bk_i (hR : RwOk C N Z T ms M Rw) (H : HxD C Z ms M) {p q : Ps} (h : BkD Rw Z lv a p q) (K : KxD N Z M a p q) : RsD C N Z T ms p q ∧ p.1 < q.1 := by
  obtain ⟨L, t, hr, R⟩ := h
  obtain ⟨⟨s1, s2, _⟩, s3⟩ := hR _ _ _ _ hr
  have s2 : p.1 + 1 ≤ q.1 := s2
  have e := R.kj
  obtain ⟨r1, r2, r3⟩ := s3 (K.in_ H rfl (by omega) R.pa List.suffix_rfl (Nat.le_refl _) (Nat.lt_succ_self _) Nb.rf (by omega) K.2.2.2.2.2)
  have r1 : AlB (okS C N T) p.2.2 q.2.2 ↔ SkB N Z T ms (p.1 + 1) q.1 := r1
  refine ⟨⟨r1.trans ?_, r2, by omega⟩, by omega⟩
  rw [skb_c (i := p.1) (by omega)]
  exact ⟨fun z => ⟨skk_tr (by omega), z⟩, fun z => z.2⟩
theorem bk_sf (hR : RwOk C N Z T ms M Rw) {p q : Ps} (h : BkD Rw Z lv a p q) : p.2.2 <:+ q.2.2 ∧ p.1 < q.1 := by
  obtain ⟨L, t, hr, R⟩ := h
  have := (hR _ _ _ _ hr).1
  have s2 : p.1 + 1 ≤ q.1 := this.2.1
  exact ⟨this.1, by omega⟩
end
