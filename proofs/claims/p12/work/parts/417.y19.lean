/-! what each code asks is what its S asks: all S's, methods, the program -/
section
variable {N : Int → Int} {Z : ZS} {T : TbT} {ms : MfT} {C : CxT} {M : Int}
theorem PgD.tr {p q r : Ps} (h : PgD (-1) p q) (g : PgD (-1) q r) : PgD (-1) p r := by
  obtain ⟨h1, h2, t, e, h3⟩ := h
  obtain ⟨g1, g2, u, f, g3⟩ := g
  refine ⟨Nat.le_trans h1 g1, Nat.le_trans h2 g2, u ++ t, by rw [f, e, List.append_assoc], fun y hy => ?_⟩
  rcases List.mem_append.mp hy with q | q
  · exact ⟨(g3 y q).1, fun o => ((g3 y q).2 o).imp (fun z => ⟨by omega, z.2⟩) id⟩
  · exact ⟨(h3 y q).1, fun o => ((h3 y q).2 o).imp (fun z => ⟨z.1, by omega⟩) id⟩
theorem PgD.rf {js : Int} {p : Ps} : PgD js p p := ⟨Nat.le_refl _, Nat.le_refl _, [], rfl, fun _ h => absurd h List.not_mem_nil⟩
theorem rw0_i {St : SsT} {lv : Int} (hS : StOk C N Z T ms M St) : RwOk C N Z T ms M (RwD St Z lv) := by
  intro a L
  induction L with
  | nil =>
    intro p q h
    rw [show q = p from h]
    exact ⟨⟨List.suffix_rfl, Nat.le_refl _, PgD.rf⟩, fun K => ⟨iff_of_true alb_rf skb_0, Nb.rf, Nat.le_refl _⟩⟩
  | cons j L ih =>
    intro p q ⟨_, _, p1, h1, h2⟩
    obtain ⟨⟨i1, i2, i3⟩, i4⟩ := ih p1 q h2
    rcases h1 with ⟨e, _⟩ | h1
    · exact absurd e (by decide)
    · obtain ⟨⟨s1, s2⟩, s3⟩ := hS _ _ _ h1
      refine ⟨⟨s1.sf.trans i1, by omega, s1.tr i3⟩, fun K => ?_⟩
      obtain ⟨r1, r2, r3⟩ := s3 (K.hd i1 i2)
      obtain ⟨u1, u2, u3⟩ := i4 (K.nx r2 r3 (K.2.2.2.2.2.pg s1 (by omega)))
      exact ⟨by rw [alb_tr s1.sf i1, r1, u1, skb_tr r3 i2], r2.tr u2, by omega⟩
theorem st_kd {n : Nat} {a : Int} {p q : Ps} (h : StD N M Z n a p q) : ¬ kjS Z p.1 = 62 ∧ ¬ kjS Z p.1 = 63 := by
  cases n with
  | zero => exact absurd h id
  | succ n =>
    obtain ⟨t, q1, _, _, h, _⟩ := h
    rcases h with ⟨m, r, _, R, _⟩ | ⟨m, hv, _⟩ | ⟨R, _⟩ | ⟨L, _, R⟩ | ⟨q1, _, R, _⟩ | ⟨m, r, q1, _, _, ⟨R, _⟩ | ⟨t2, q2, _, R, _⟩⟩ | ⟨m, r, q1, _, _, R, _⟩ | ⟨m, r, q1, _, _, R, _⟩ | ⟨q1, q3, q4, m2, o, g, x, _, _, _, _, R, _⟩ | ⟨m, r, L, q1, _, _, _, R, _⟩ | ⟨q1, q2, q3, o, g, v, _, _, _, _, R, _⟩ | ⟨kd, lk, t2, hk, _, R, _⟩ | (⟨R, _⟩ | ⟨m, r, _, ⟨R, _⟩ | ⟨R, _⟩⟩)
    · have := R.kj; omega
    · have v3 := (va_i (C := (fun _ => 0, fun _ => (0, 0), 0, fun _ => none)) (N := N) (T := (fun _ => (0, 0, 0, 0), fun _ => (0, 0))) hv).2.2
      have e : kjS Z p.1 = 91 := congrArg (fun v : Int × Int × Int × Int => v.1) v3
      omega
    all_goals (have := R.kj; omega)
/-- every S -/
theorem ok_st (H : HxD C Z ms M) : ∀ n, StOk C N Z T ms M (StD N M Z n) := by
  intro n
  induction n with
  | zero => exact fun _ _ _ h => absurd h id
  | succ n ih =>
    intro a p q h
    refine ⟨h.pg, fun K => ?_⟩
    obtain ⟨t, q1, pg, ⟨lt, _⟩, hI, rfl⟩ := h
    have hR : RwOk C N Z T ms M (RwD (StD N M Z n) Z (lvN n)) := rw0_i ih
    have lt : p.1 < q1.1 := lt
    have hZ : q1.2.2 <:+ Z.2.1 := (List.suffix_cons _ _).trans K.1
    have K' : KxD N Z M a (p.1, p.2.1, p.2.2) (q1.1, q1.2.1, cIy 45 p.2.2.length 0 t :: q1.2.2) := K
    have key : RsI C N Z T ms p.1 (cIy 20 0 0 t :: p.2.2) q1 := by
      have kn := K.2.1
      have kn : q1.1 ≤ snM Z := kn
      rcases hI with h | h | h | h | h | h | h | h | h | h | h | h | h
      · exact ri_xs h hZ
      · exact ri_to h
      · exact ri_em h
      · exact ri_bl hR H h K'
      · exact ri_la ih H h K'
      · exact ri_if ih H h K'
      · exact ri_wh ih H h K'
      · exact ri_do ih H h K'
      · exact ri_fo ih H h K'
      · exact ri_sw ih (fun _ _ _ h => st_kd h) H h K'
      · exact ri_ty hR H h K'
      · exact ri_ju H h (by omega) K.2.2.1
      · exact ri_gi H h (by show ((mdZ (cIy 20 0 0 t :: p.2.2) : Nat) : Int) = M; rw [(nb_ci (l := p.2.2) (o := 20) (a := 0) (b := 0) (t := t) (by decide)).2.2]; exact K.2.2.2.1)
    obtain ⟨k1, k2, k3⟩ := key
    refine ⟨?_, (nb_ci (by decide)).tr (k2.tr (nb_ci (by decide))), by show p.1 ≤ q1.1; omega⟩
    show AlB (okS C N T) p.2.2 (cIy 45 p.2.2.length 0 t :: q1.2.2) ↔ SkB N Z T ms p.1 q1.1
    rw [ok_wr k2.1]
    exact k1
end
/-- the program: every code is fine iff every S is -/
theorem ok_pr {N : Int → Int} {Z : ZS} {T : TbT} {ms : MfT} {C : CxT} {nm : Nat} (hp : ∀ i, i < snM Z → paS Z i < (i : Int)) (hm : ∀ k, k < nm → ∃ m, ms k = some m) (ht : ∀ i, i < snM Z → 0 ≤ thS Z i) (hc : C.2.2.2 = ms) : ∀ (L : List Nat) (M : Nat) (p q : Ps), PrD N Z L M p q → M + L.length ≤ nm → q.2.2 <:+ Z.2.1 → q.1 ≤ snM Z → mdZ p.2.2 = M → lbZ p.2.2 = [] → ThB p.2.2 p.2.1 →
    (p.2.2 <:+ q.2.2 ∧ p.1 ≤ q.1) ∧ (AlB (okS C N T) p.2.2 q.2.2 ↔ SkB N Z T ms p.1 q.1) := by
  intro L
  induction L with
  | nil =>
    intro M p q h _ _ _ _ _ _
    rw [show q = p from h]
    exact ⟨⟨List.suffix_rfl, Nat.le_refl _⟩, iff_of_true alb_rf skb_0⟩
  | cons j L ih =>
    intro M p q ⟨_, p1, ⟨q1, t, hB, e1⟩, h2⟩ hn hZ hq hmd hlb hth
    rw [List.length_cons] at hn
    have H : HxD C Z ms (M : Int) := ⟨hp, by rw [Int.toNat_natCast]; exact hm M (by omega), ht, hc⟩
    have hR : RwOk C N Z T ms (M : Int) (RwD (StD N M Z 20) Z (lvN 20)) := rw0_i (ok_st H 20)
    have s := bk_sf hR hB
    have pg := bk_pg hR hB
    have s1 : p.2.2 <:+ q1.2.2 := s.1
    have s2 : p.1 < q1.1 := s.2
    have thq : ThB q1.2.2 q1.2.1 := ThB.pg (p := (p.1, p.2.1 + 1, p.2.2)) (hth.mo (Nat.le_succ _)) pg (by omega)
    -- behind it
    have sub : p1.2.2 <:+ q.2.2 ∧ p1.1 ≤ q.1 := by
      clear ih
      have go : ∀ (L : List Nat) (M : Nat) (p q : Ps), PrD N Z L M p q → M + L.length ≤ nm → p.2.2 <:+ q.2.2 ∧ p.1 ≤ q.1 := by
        intro L
        induction L with
        | nil => intro M p q h _; rw [show q = p from h]; exact ⟨List.suffix_rfl, Nat.le_refl _⟩
        | cons j L ih =>
          intro M p q ⟨_, p1, ⟨q1, t, hB, e1⟩, h2⟩ hn
          rw [List.length_cons] at hn
          have H : HxD C Z ms (M : Int) := ⟨hp, by rw [Int.toNat_natCast]; exact hm M (by omega), ht, hc⟩
          have s := bk_sf (rw0_i (T := T) (ok_st H 20)) hB
          have r := ih (M + 1) p1 q h2 (by omega)
          rw [e1] at r
          have a : p.2.2 <:+ q1.2.2 := s.1
          have b : p.1 < q1.1 := s.2
          have d : q1.1 ≤ q.1 := r.2
          exact ⟨(a.trans (List.suffix_cons _ _)).trans r.1, by omega⟩
      exact go L (M + 1) p1 q h2 (by omega)
    have sub' := sub
    rw [e1] at sub'
    have u1 : (cIy 54 M 0 t :: q1.2.2) <:+ q.2.2 := sub'.1
    have u2 : q1.1 ≤ q.1 := sub'.2
    have K : KxD N Z (M : Int) (-1) (p.1, p.2.1 + 1, p.2.2) q1 := ⟨((List.suffix_cons _ _).trans u1).trans hZ, Nat.le_trans u2 hq, by show (-1 : Int) < ((p.1 : Nat) : Int); omega, by show ((mdZ p.2.2 : Nat) : Int) = _; rw [hmd], fun t => iff_of_true (fun e he => absurd (show e ∈ lbZ p.2.2 from he) (by rw [hlb]; exact List.not_mem_nil)) (lb_neg (by decide)), hth.mo (Nat.le_succ _)⟩
    obtain ⟨⟨r1, r2, r3⟩, _⟩ := bk_i hR H hB K
    have r1 : AlB (okS C N T) p.2.2 q1.2.2 ↔ SkB N Z T ms p.1 q1.1 := r1
    have r2 : Nb p.2.2 q1.2.2 := r2
    have i := ih (M + 1) p1 q h2 (by omega) hZ hq (by rw [e1]; show (if (54 : Int) = 54 then mdZ q1.2.2 + 1 else mdZ q1.2.2) = _; rw [if_pos rfl, r2.2.2, hmd]) (by rw [e1]; show (if (54 : Int) = 41 then _ else if (54 : Int) = 42 then _ else lbZ q1.2.2) = _; rw [if_neg (by decide), if_neg (by decide), r2.2.1, hlb]) (by rw [e1]; exact thq.c0 rfl)
    have i2 := i.2
    rw [e1] at i2
    have i2 : AlB (okS C N T) (cIy 54 M 0 t :: q1.2.2) q.2.2 ↔ SkB N Z T ms q1.1 q.1 := i2
    refine ⟨⟨s1.trans ((List.suffix_cons _ _).trans u1), by omega⟩, ?_⟩
    rw [alb_tr s1 ((List.suffix_cons _ _).trans u1), r1, ok_ci u1 (by omega), i2, skb_tr (i := p.1) (j := q1.1) (k := q.1) (by omega) u2]
