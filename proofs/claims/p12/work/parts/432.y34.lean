/-! SURELY assigned, as the class goes, is what the function of y20 says: every S -/
/-- S's inside of what was read -/
def StW (z : ZS) (St : SsT) : SsT := fun a p q => St a p q ∧ q.1 ≤ snM z ∧ q.2.2 <:+ z.2.1
section
variable {N : Int → Int} {z : ZS} {T : TbT} {a lv t : Int} {j k : Nat} {l : List ItZ} {q : Ps} {St : SsT} {Rw : RsT}
theorem cs_sf {js : Nat} {p p1 : Ps} (h : CsD z lv js a p p1) : p1.1 = p.1 + 1 ∧ p.2.2 <:+ p1.2.2 := by
  rcases h with ⟨t, m, r, R, hx, rfl⟩ | ⟨t, R, rfl⟩
  · exact ⟨rfl, hx.sf.trans (List.suffix_cons _ _)⟩
  · exact ⟨rfl, List.suffix_cons _ _⟩
theorem rw_w (hS : ∀ a p q, St a p q → p.1 < q.1 ∧ p.2.2 <:+ q.2.2) {sw : Int} : ∀ (L : List Nat) (p q : Ps), RwD St z lv sw k a L p q → (p.1 ≤ q.1 ∧ p.2.2 <:+ q.2.2) ∧ (q.1 ≤ snM z → q.2.2 <:+ z.2.1 → RwD (StW z St) z lv sw k a L p q) := by
  intro L
  induction L with
  | nil => exact fun p q h => ⟨by rw [show q = p from h]; exact ⟨Nat.le_refl _, List.suffix_rfl⟩, fun _ _ => h⟩
  | cons j L ih =>
    intro p q ⟨e1, e2, p1, h1, h2⟩
    obtain ⟨⟨i1, i0⟩, i2⟩ := ih p1 q h2
    rcases h1 with ⟨es, h1⟩ | h1
    · have c := cs_sf h1
      exact ⟨⟨by omega, c.2.trans i0⟩, fun hz hq => ⟨e1, e2, p1, Or.inl ⟨es, h1⟩, i2 hz hq⟩⟩
    · obtain ⟨s1, s0⟩ := hS _ _ _ h1
      exact ⟨⟨by omega, s0.trans i0⟩, fun hz hq => ⟨e1, e2, p1, Or.inr ⟨h1, by omega, i0.trans hq⟩, i2 hz hq⟩⟩
theorem bk_w (hS : ∀ a p q, St a p q → p.1 < q.1 ∧ p.2.2 <:+ q.2.2) {lv' : Int} {p q : Ps} (h : BkD (RwD St z lv) z lv' a p q) (hz : q.1 ≤ snM z) (hq : q.2.2 <:+ z.2.1) : BkD (RwD (StW z St) z lv) z lv' a p q := by
  obtain ⟨L, t, hr, R⟩ := h
  exact ⟨L, t, (rw_w hS _ _ _ hr).2 hz hq, R⟩
theorem da_ro (hD : DaSo N z T St) (hkd : ∀ a p q, St a p q → ¬ kjS z p.1 = 62 ∧ ¬ kjS z p.1 = 63) : DaRo N z T (RwD (StW z St) z lv) := by
  have hW : DaSo N z T (StW z St) := fun a p q h => hD a p q h.1
  have hR : DaRw N z T (RwD (StW z St) z lv) := da_row hW (fun _ _ _ h => hkd _ _ _ h.1)
  intro a L p q hr f m R hf h e
  have bd : ∀ (L : List Nat) (p q : Ps), RwD (StW z St) z lv 0 0 a L p q → ¬ L = [] → q.1 ≤ snM z ∧ q.2.2 <:+ z.2.1 := by
    intro L
    induction L with
    | nil => exact fun _ _ _ c => absurd rfl c
    | cons j L ih =>
      intro p q ⟨e1, e2, p1, h1, h2⟩ _
      rcases h1 with ⟨es, _⟩ | h1
      · exact absurd es (by decide)
      · cases L with
        | nil => rw [show q = p1 from h2]; exact h1.2
        | cons i L => exact ih p1 q h2 (by intro c; cases c)
  cases L with
  | nil =>
    rw [show hdI [] = -1 from rfl, d_r0 (by decide)] at h
    cases h
    have e : true = false := e
    cases e
  | cons i L =>
    obtain ⟨b1, b2⟩ := bd _ _ _ hr (by intro c; cases c)
    exact (((hR _ _ _ _ _ _ hr).2 f true m hf b1 b2 (fun e => absurd e (by decide))).1 rfl R h).1 e
end
/-- every S -/
theorem as_all {N : Int → Int} {M : Int} {C : CxT} {z : ZS} {T : TbT} {ms : MfT} (H : DfX N C z T ms) (hp : ∀ i, i < snM z → paS z i < (i : Int)) : ∀ n, n ≤ 21 → AsSo N z T (StW z (StD N M z n)) := by
  intro n
  induction n with
  | zero => exact fun _ _ _ _ h => absurd h.1 id
  | succ n ih =>
    intro hn a p q ⟨h, hz, hq⟩
    have ih := ih (by omega)
    have dS := da_st (M := M) H n (by omega)
    have sS : ∀ a p q, StD N M z n a p q → p.1 < q.1 ∧ p.2.2 <:+ q.2.2 := fun a p q h => (dS a p q h).1
    have hkd : ∀ a p q, StW z (StD N M z n) a p q → ¬ kjS z p.1 = 62 ∧ ¬ kjS z p.1 = 63 := fun _ _ _ h => st_kd h.1
    have hD : DaRo N z T (RwD (StW z (StD N M z n)) z (lvN n)) := da_ro dS (fun _ _ _ h => st_kd h)
    have hJ : JtSo N z T (StW z (StD N M z n)) := fun a p q h => (rc_jt (N := N) (M := M) (T := T) hp n).1 a p q h.1
    have hRt : JtRo N z T (RwD (StW z (StD N M z n)) z (lvN n)) := jt_row hJ hkd
    have hR : AsRo N z T (RwD (StW z (StD N M z n)) z (lvN n)) := as_row ih
    have lv : lvN (n + 1) ≤ 20 := by unfold lvN; omega
    obtain ⟨t, q1, _, ⟨lt, _⟩, h, rfl⟩ := h
    have lt : p.1 < q1.1 := lt
    have hz : q1.1 ≤ snM z := hz
    have hq : q1.2.2 <:+ z.2.1 := (List.suffix_cons _ _).trans hq
    have key : lvS z p.1 ≤ 20 ∧ (a < (p.1 : Int) → AsI N z T a p.1 q1.1) := by
      rcases h with ⟨m, r, hx, R, rfl⟩ | ⟨m, ⟨v, t, _, hv⟩, rfl⟩ | ⟨R, rfl⟩ | ⟨L, hr, R⟩ | ⟨q2, hs, R, rfl⟩ | ⟨m, r, q2, hx, hs, ⟨R, rfl⟩ | ⟨t2, q3, hs2, R, rfl⟩⟩ | ⟨m, r, q2, hx, hs, R, rfl⟩ | ⟨m, r, q2, hs, hx, R, rfl⟩ | ⟨q2, q3, q4, m2, o, g, x, f1, f2, ⟨L, hgL, f3⟩, hs, R, rfl⟩ | ⟨m, r, L, q2, hx, hr, _, R, rfl⟩ | ⟨q2, q3, q4, o, g, v, B1, B2, B3, _, R, rfl⟩ | ⟨kd, lk, t2, hk, _, R, rfl⟩ | (⟨R, rfl⟩ | ⟨m, r, hx, ⟨R, rfl⟩ | ⟨R, rfl⟩⟩)
      · have e := R.kj
        exact ⟨by rw [R.lev]; exact lv, fun _ => as_lf (by omega)⟩
      · rcases hv with ⟨R, rfl⟩ | ⟨m0, r, x, _, R, _, rfl⟩
        · have e := R.kj
          exact ⟨by rw [R.lev]; exact lv, fun _ => as_lf (by omega)⟩
        · have e := R.kj
          exact ⟨by rw [R.lev]; exact lv, fun _ => as_lf (by omega)⟩
      · have e := R.kj
        exact ⟨by rw [R.lev]; exact lv, fun _ => as_lf (by omega)⟩
      · exact ⟨by rw [R.lev]; exact lv, fun _ => as_bl hR ((rw_w sS _ _ _ hr).2 hz hq) R.kj R.pa R.bj⟩
      · have h1 := as_la ih ⟨hs, hz, (List.suffix_cons _ _).trans hq⟩ R.kj R.pa R.bj
        exact ⟨by rw [R.lev]; exact lv, fun _ => h1⟩
      · have h1 := as_if1 ih ⟨hs, hz, (List.suffix_cons _ _).trans hq⟩ R.kj R.pa R.bj R.oj
        exact ⟨by rw [R.lev]; exact lv, fun _ => h1⟩
      · have h2 := sS _ _ _ hs2
        have hq3 : q3.2.2 <:+ z.2.1 := (List.suffix_cons _ _).trans hq
        have hz3 : q3.1 ≤ snM z := hz
        have l2 : q2.1 < q3.1 := h2.1
        have h1 := as_if2 ih ⟨hs, by omega, ((List.suffix_cons _ _).trans h2.2).trans hq3⟩ ⟨hs2, hz, hq3⟩ R.kj R.pa R.bj R.oj
        exact ⟨by rw [R.lev]; exact lv, fun _ => h1⟩
      · have h1 := as_wh ih ⟨hs, hz, (List.suffix_cons _ _).trans hq⟩ R.kj R.pa R.bj
        exact ⟨by rw [R.lev]; exact lv, fun _ => h1⟩
      · have h1 := as_do ih ⟨hs, hz, ((List.suffix_cons _ _).trans hx.sf).trans ((List.suffix_cons _ _).trans hq)⟩ R.kj R.pa R.bj
        exact ⟨by rw [R.lev]; exact lv, fun _ => h1⟩
      · have h1 := as_fo (lv := lvN (n + 1)) hp ih hJ lv f1 f3 ⟨hs, hz, (List.suffix_cons _ _).trans hq⟩ hgL R.kj R.pa R.bj R.oj R.gj
        exact ⟨by rw [R.lev]; exact lv, fun _ => h1⟩
      · have h1 := as_sw ih hkd ((rw_w sS _ _ _ hr).2 hz ((List.suffix_cons _ _).trans hq)) R.kj R.pa R.bj
        exact ⟨by rw [R.lev]; exact lv, fun _ => h1⟩
      · have hq4 : q4.2.2 <:+ z.2.1 := (List.suffix_cons _ _).trans hq
        have hz4 : q4.1 ≤ snM z := hz
        have hb : ∀ (a : Int) (p q : Ps), BkD (RwD (StD N M z n) z (lvN n)) z (lvN (n + 1)) a p q → p.1 + 1 ≤ q.1 ∧ p.2.2 <:+ q.2.2 := fun a p q ⟨L, t, hr, _⟩ => (rw_w sS _ _ _ hr).1
        have hq3 : q3.2.2 <:+ z.2.1 ∧ q3.1 ≤ snM z := by
          rcases B3 with ⟨_, e⟩ | ⟨_, t2, B⟩
          · rw [← e]; exact ⟨hq4, hz4⟩
          · have := (hb _ _ _ B).1
            have : q3.1 + 1 ≤ q4.1 := this
            exact ⟨((List.suffix_cons _ _).trans (hb _ _ _ B).2).trans hq4, by omega⟩
        have hq2 : q2.2.2 <:+ z.2.1 ∧ q2.1 ≤ snM z := by
          rcases B2 with ⟨_, _, e⟩ | ⟨_, _, t2, B⟩
          · rw [← e]; exact hq3
          · have := (hb _ _ _ B).1
            have : q2.1 + 1 ≤ q3.1 := this
            exact ⟨((List.suffix_cons _ _).trans (hb _ _ _ B).2).trans hq3.1, by have := hq3.2; omega⟩
        have B2' : (o = -1 ∧ q3.1 = q2.1) ∨ (o = (q2.1 : Int) ∧ ∃ p2, BkD (RwD (StW z (StD N M z n)) z (lvN n)) z (lvN (n + 1)) (p.1 : Int) (q2.1, p2) q3) := by
          rcases B2 with ⟨e, _, e2⟩ | ⟨e, _, t2, B⟩
          · exact Or.inl ⟨e, by rw [e2]⟩
          · exact Or.inr ⟨e, _, bk_w sS B hq3.2 hq3.1⟩
        have B3' : (g = -1 ∧ q4.1 = q3.1) ∨ (g = (q3.1 : Int) ∧ ∃ p3, BkD (RwD (StW z (StD N M z n)) z (lvN n)) z (lvN (n + 1)) (p.1 : Int) (q3.1, p3) q4) := by
          rcases B3 with ⟨e, e2⟩ | ⟨e, t2, B⟩
          · exact Or.inl ⟨e, by rw [e2]⟩
          · exact Or.inr ⟨e, _, bk_w sS B hz4 hq4⟩
        have h1 := as_ty (v := v) hp hR hRt hD lv (bk_w sS B1 hq2.2 hq2.1) B2' B3' R.kj R.pa R.bj R.oj R.gj
        exact ⟨by rw [R.lev]; exact lv, fun _ => h1⟩
      · have e := R.kj
        refine ⟨by rw [R.lev]; exact lv, fun ha => as_ju (by omega) R.pa ?_⟩
        have c := tg_ch (N := N) (z := z) (on := decide (kjS z p.1 = 65)) (lk := ljS z p.1) (snM z) (paS z p.1)
        have e2 : tjT N z p.1 = tgZ N z.2.2.1.2 (decide (kjS z p.1 = 65)) (ljS z p.1) (snM z) (paS z p.1) := rfl
        rw [e2]
        have pp := R.pa
        rcases c with c | c
        · omega
        · have := (ch_le hp c (by omega)).1
          omega
      · have e := R.kj
        exact ⟨by rw [R.lev]; exact lv, fun _ => as_lf (by omega)⟩
      · have e := R.kj
        exact ⟨by rw [R.lev]; exact lv, fun _ => as_lf (by omega)⟩
      · have e := R.kj
        exact ⟨by rw [R.lev]; exact lv, fun _ => as_lf (by omega)⟩
    refine ⟨lt, fun f f' g m R hf hf' K hF h => ?_⟩
    have K : KrD z a p.1 q1.1 := K
    exact (as_S (key.2 K.2.1) key.1 lt hf hf' K hF h).1
