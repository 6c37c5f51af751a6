/-! what each code asks is what its S asks: try, jumps, return, throw -/
section
variable {N : Int → Int} {Z : ZS} {T : TbT} {ms : MfT} {C : CxT} {M a lv t c : Int} {j k : Nat} {l : List ItZ} {q : Ps} {St : SsT} {Rw : RsT}
theorem bk_pg (hR : RwOk C N Z T ms M Rw) {p q : Ps} (h : BkD Rw Z lv a p q) : PgD (-1) p q := by
  obtain ⟨L, t, hr, R⟩ := h
  obtain ⟨p1, p2, p3⟩ := (hR _ _ _ _ hr).1.2.2
  have p1 : p.1 + 1 ≤ q.1 := p1
  exact ⟨by omega, p2, p3⟩
/-- a block behind a code, or none -/
theorem op_i (hR : RwOk C N Z T ms M Rw) (H : HxD C Z ms M) {y : Int × Int × Int × Int × Int} {q1 q2 : Ps} (h : q2 = q1 ∨ BkD Rw Z lv j (q1.1, q1.2.1, .inr y :: q1.2.2) q2) (ho : TrO y.1 ∧ ¬ y.1 = 41 ∧ ¬ y.1 = 42 ∧ ¬ y.1 = 54) (hy : y.2.1 < (q1.2.1 : Int)) (th : ThB q1.2.2 q1.2.1) (hK : ∀ p1 : Ps, p1 = (q1.1, q1.2.1, .inr y :: q1.2.2) → p1.2.2 <:+ q2.2.2 → Nb q1.2.2 p1.2.2 → ThB p1.2.2 p1.2.1 → KxD N Z M j p1 q2) : (AlB (okS C N T) q1.2.2 q2.2.2 ↔ SkB N Z T ms q1.1 q2.1) ∧ Nb q1.2.2 q2.2.2 ∧ q1.1 ≤ q2.1 ∧ ThB q2.2.2 q2.2.1 ∧ q1.2.1 ≤ q2.2.1 := by
  rcases h with rfl | h
  · exact ⟨iff_of_true alb_rf skb_0, Nb.rf, Nat.le_refl _, th, Nat.le_refl _⟩
  · have s := bk_sf hR h
    have th1 : ThB (.inr y :: q1.2.2) q1.2.1 := th.r (fun _ => hy)
    obtain ⟨⟨r1, r2, r3⟩, r4⟩ := bk_i hR H h (hK _ rfl s.1 (nb_r ho.2) th1)
    have pg := bk_pg hR h
    have r1 : AlB (okS C N T) (.inr y :: q1.2.2) q2.2.2 ↔ SkB N Z T ms q1.1 q2.1 := r1
    refine ⟨?_, (nb_r ho.2).tr r2, r3, th1.pg (p := (q1.1, q1.2.1, .inr y :: q1.2.2)) pg (by omega), pg.2.1⟩
    rw [← r1]
    exact (alb_c s.1).trans ⟨fun z => z.2, fun z => ⟨ok_t (Or.inl ho.1), z⟩⟩
theorem ri_ty (hR : RwOk C N Z T ms M Rw) (H : HxD C Z ms M) (h : TyD Rw Z lv a j k t (cIy 20 0 0 t :: l) q) (K : KxD N Z M a (j, k, l) (q.1, q.2.1, cIy 45 c 0 t :: q.2.2)) : RsI C N Z T ms j (cIy 20 0 0 t :: l) q := by
  obtain ⟨q1, q2, q3, o, g, v, B1, h2, h3, _, R, rfl⟩ := h
  have e := R.kj
  have s1 := bk_sf hR B1
  have s1l : j + 1 < q1.1 := s1.2
  have sf1 : (cIy 50 k 0 t :: cIy 20 0 0 t :: l) <:+ q1.2.2 := s1.1
  have thk : (k : Int) < ((k + 1 : Nat) : Int) := by omega
  have th1 : ThB (cIy 50 k 0 t :: cIy 20 0 0 t :: l) (k + 1) := ((K.2.2.2.2.2.mo (Nat.le_succ _)).c0 rfl).ci (fun _ => thk)
  have pg1 := bk_pg hR B1
  have kn1 : k + 1 ≤ q1.2.1 := pg1.2.1
  have thq1 := th1.pg (p := (j + 1, k + 1, cIy 50 k 0 t :: cIy 20 0 0 t :: l)) pg1 (by omega)
  have h2' : ∃ y : Int × Int × Int × Int × Int, (q2 = q1 ∨ BkD Rw Z lv j (q1.1, q1.2.1, .inr y :: q1.2.2) q2) ∧ y.1 = 51 ∧ y.2.1 = (k : Int) := by
    rcases h2 with ⟨_, _, e2⟩ | ⟨_, _, t2, B2⟩
    · exact ⟨(51, (k : Int), 0, 0, 0), Or.inl e2, rfl, rfl⟩
    · exact ⟨_, Or.inr B2, rfl, rfl⟩
  have h3' : ∃ y : Int × Int × Int × Int × Int, (q3 = q2 ∨ BkD Rw Z lv j (q2.1, q2.2.1, .inr y :: q2.2.2) q3) ∧ y.1 = 52 ∧ y.2.1 = (k : Int) := by
    rcases h3 with ⟨_, e2⟩ | ⟨_, t2, B2⟩
    · exact ⟨(52, (k : Int), 0, 0, 0), Or.inl e2, rfl, rfl⟩
    · exact ⟨_, Or.inr B2, rfl, rfl⟩
  obtain ⟨y2, h2, y21, y22⟩ := h2'
  obtain ⟨y3, h3, y31, y32⟩ := h3'
  have s2 : q1.2.2 <:+ q2.2.2 ∧ q1.1 ≤ q2.1 := by
    rcases h2 with rfl | B2
    · exact ⟨List.suffix_rfl, Nat.le_refl _⟩
    · have s := bk_sf hR B2
      have : q1.1 < q2.1 := s.2
      exact ⟨(List.suffix_cons _ _).trans s.1, by omega⟩
  have s3 : q2.2.2 <:+ q3.2.2 ∧ q2.1 ≤ q3.1 := by
    rcases h3 with rfl | B2
    · exact ⟨List.suffix_rfl, Nat.le_refl _⟩
    · have s := bk_sf hR B2
      have : q2.1 < q3.1 := s.2
      exact ⟨(List.suffix_cons _ _).trans s.1, by omega⟩
  have s2l := s2.2
  have s3l := s3.2
  have end3 : q3.2.2 <:+ (cIy 45 c 0 t :: cIy 53 k 0 t :: q3.2.2) := (List.suffix_cons _ _).trans (List.suffix_cons _ _)
  obtain ⟨⟨r1, r2, r3⟩, r4⟩ := bk_i hR H B1 (K.in_ H rfl (by omega) R.pa ((s2.1.trans s3.1).trans end3) (by show q1.1 ≤ q3.1; omega) (Nat.lt_succ_self _) ((nb_ci (by decide)).tr (nb_ci (by decide))) (by show j < q3.1; omega) th1)
  have r1 : AlB (okS C N T) (cIy 50 k 0 t :: cIy 20 0 0 t :: l) q1.2.2 ↔ SkB N Z T ms (j + 1) q1.1 := r1
  have nbq1 : Nb (cIy 20 0 0 t :: l) q1.2.2 := (nb_ci (by decide)).tr r2
  obtain ⟨u1, u2, u3, u4, u5⟩ := op_i (C := C) (T := T) hR H h2 (by rw [y21]; decide) (by rw [y22]; omega) thq1 (fun p1 ep sf nb th => K.in_ H rfl (by omega) R.pa (s3.1.trans end3) (by show q2.1 ≤ q3.1; omega) (by rw [ep]; show j < q1.1; omega) ((nb_ci (by decide)).tr (nbq1.tr nb)) (by show j < q3.1; omega) th)
  obtain ⟨v1, v2, v3, v4, v5⟩ := op_i (C := C) (T := T) hR H h3 (by rw [y31]; decide) (by rw [y32]; omega) u4 (fun p1 ep sf nb th => K.in_ H rfl (by omega) R.pa end3 (Nat.le_refl _) (by rw [ep]; show j < q2.1; omega) ((nb_ci (by decide)).tr (nbq1.tr (u2.tr nb))) (by show j < q3.1; omega) th)
  refine ⟨?_, nbq1.tr (u2.tr (v2.tr (nb_ci (by decide)))), by show j < q3.1; omega⟩
  show AlB (okS C N T) (cIy 20 0 0 t :: l) (cIy 53 k 0 t :: q3.2.2) ↔ SkB N Z T ms j q3.1
  rw [ok_ei (nbq1.1.trans (s2.1.trans s3.1)) (by omega), alb_tr nbq1.1 (s2.1.trans s3.1), alb_tr s2.1 s3.1, ok_ci sf1 (by omega), skb_c (i := j) (j := q3.1) (by omega), skb_tr (i := j + 1) (j := q1.1) (k := q3.1) (by omega) (by omega), skb_tr (i := q1.1) (j := q2.1) (k := q3.1) s2l s3l, r1, u1, v1]
  exact ⟨fun z => ⟨skk_tr (by omega), z⟩, fun z => z.2⟩
theorem ri_ju (H : HxD C Z ms M) (h : JuD N Z lv a j k t l q) (hj : j < snM Z) (ha : a < (j : Int)) : RsI C N Z T ms j l q := by
  obtain ⟨kd, lk, t2, hk, _, R, rfl⟩ := h
  have e := R.kj
  refine ⟨?_, nb_ci (by omega), Nat.lt_succ_self _⟩
  show AlB (okS C N T) l (.inr (kd - 18, tqD N Z j, 0, t2, -1) :: l) ↔ _
  rw [alb_1, skb_1, ok_46 (by omega), skk_64 (by omega)]
  have pj := R.pa
  have tl : tjT N Z j < (snM Z : Int) := by
    unfold tjT
    rw [pj]
    exact (tg_ag (N := N) (f := reS Z) (g := reS Z) (on := decide (kjS Z j = 65)) (t := ljS Z j) (m := snM Z) (fun _ _ => ⟨rfl, fun _ => rfl⟩) (fun i hi => H.1 i hi) (snM Z) (snM Z) a (by omega) (by omega) (by omega)).2
  unfold tqD
  by_cases g : tjT N Z j < 0
  · rw [if_pos g]
    exact ⟨fun z => absurd z (by decide), fun z => by omega⟩
  · rw [if_neg g]
    exact ⟨fun _ => by omega, fun _ => H.2.2.1 _ (by omega)⟩
theorem mty_c (H : HxD C Z ms M) {d : Nat} (hd : (d : Int) = M) : ∃ m, ms M.toNat = some m ∧ mtyT C d = m.2.1 := by
  obtain ⟨_, ⟨m, hm⟩, _, hc⟩ := H
  refine ⟨m, hm, ?_⟩
  unfold mtyT
  rw [hc, hd, hm]
theorem ri_gi (H : HxD C Z ms M) (h : GiD M Z lv a j k t l q) (hM : (mdZ l : Int) = M) : RsI C N Z T ms j l q := by
  rcases h with ⟨R, rfl⟩ | ⟨m, r, hx, ⟨R, rfl⟩ | ⟨R, rfl⟩⟩
  · obtain ⟨mt, hm, hy⟩ := mty_c H hM
    refine ⟨?_, nb_ci (by decide), Nat.lt_succ_self _⟩
    show AlB (okS C N T) l (.inr (48, 0, -2, t, -1) :: l) ↔ _
    rw [alb_1, skb_1, ok_48, skk_66 R.kj, R.lj, hm, hy]
    constructor
    · intro z m' hm'
      cases hm'
      unfold rtT'
      rw [R.xj]
      exact ⟨⟨fun _ => z.1 rfl, fun _ => by decide⟩, fun z => absurd z (by decide)⟩
    · intro z
      have w := z mt rfl
      unfold rtT' at w
      rw [R.xj] at w
      exact ⟨fun _ => w.1.mp (by decide), fun z => absurd rfl z⟩
  · have hM' : (mdZ m : Int) = M := by rw [hx.nb.2.2]; exact hM
    obtain ⟨mt, hm, hy⟩ := mty_c H hM'
    refine ⟨?_, hx.nb.tr (nb_ce (by decide)), Nat.lt_succ_self _⟩
    show AlB (okS C N T) l (.inr (48, 1, (m.length : Int) - 1, t, (xcZ m : Int) - 1) :: m) ↔ _
    have nn := hx.nn
    rw [alb_e hx.sf, skb_1, ok_48, skk_66 R.kj, R.lj, hm, hy]
    constructor
    · intro ⟨_, z⟩ m' hm'
      cases hm'
      unfold rtT'
      rw [R.xj]
      have w := z.2 (by decide)
      exact ⟨⟨fun q => by omega, fun q => absurd q w.1⟩, fun _ => w.2⟩
    · intro z
      have w := z mt rfl
      unfold rtT' at w
      rw [R.xj] at w
      exact ⟨alb_ex hx, fun q => absurd q (by decide), fun _ => ⟨fun q => by have := w.1.mpr q; omega, w.2 nn.2.1⟩⟩
  · refine ⟨?_, hx.nb.tr (nb_ce (by decide)), Nat.lt_succ_self _⟩
    show AlB (okS C N T) l (.inr (49, 1, (m.length : Int) - 1, t, (xcZ m : Int) - 1) :: m) ↔ _
    rw [alb_e hx.sf, skb_1, ok_49, skk_67 R.kj, R.xj]
    exact ⟨fun z _ => z.2, fun z => ⟨alb_ex hx, z hx.nn.2.1⟩⟩
end
