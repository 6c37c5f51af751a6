/-! the reference's flow: every S -/
section
variable {a : Nat} {k : Int} {l l' : List ItZ} {o b t e x : Int}
theorem pq_r (h : sqZ a o = false) : pqZ a k (.inr (o, x, b, t, e) :: l) = pqZ a k l := if_neg (fun q => by
  have q := q.1
  rw [show sqZ a (o, x, b, t, e).1 = false from h] at q
  cases q)
theorem pq_y (h : sqZ a o = true) : pqZ a k (.inr (o, k, b, t, e) :: l) = (l.length : Int) := if_pos ⟨h, rfl⟩
theorem df_r (h : ¬ o = 39) : dfZ k (.inr (o, x, b, t, e) :: l) = dfZ k l := if_neg (fun q => h q.1)
theorem pq_pg {p q : Ps} {k : Nat} (g : PgD (-1) p q) (h : k < p.2.1) : pqZ a (k : Int) q.2.2 = pqZ a (k : Int) p.2.2 ∧ dfZ (k : Int) q.2.2 = dfZ (k : Int) p.2.2 := pq_ta (TaB.pg (P := fun x => ¬ x = (k : Int)) TaB.rf g (fun x c1 c2 => by omega) (by omega)) (fun q => q rfl)
theorem pq_bk {p q : Ps} {k : Nat} (g : TaB (fun x => ((p.2.1 : Int) ≤ x ∧ x < (q.2.1 : Int)) ∨ x = -1) p.2.2 q.2.2) (h : k < p.2.1) : pqZ a (k : Int) q.2.2 = pqZ a (k : Int) p.2.2 := (pq_ta g (fun x => by omega)).1
end
theorem fwS_st {τ : RS} {C : CxT} {N : Int → Int} {Mi : Int} {z : ZS} {T : TbT} {ms : MfT} (H : GxF N C z T ms) (hok : AlB (okS C N T) [] z.2.1) (hth : ∀ i, i < snM z → 0 ≤ thS z i) : ∀ n, n ≤ 21 → FwSo τ C N z T (StX z (StD N Mi z n)) := by
  intro n
  induction n with
  | zero => exact fun _ _ _ _ h => absurd h.1.1 id
  | succ n ih =>
    intro hn a p q ⟨⟨h, hz, hq⟩, hc⟩
    have ih := ih (by omega)
    have l0 : 0 ≤ lvN n := by unfold lvN; omega
    have lv : 0 ≤ lvN (n + 1) := by unfold lvN; omega
    have hJ := ((rc_jt (N := N) (M := Mi) (T := T) H.2.2.2.2 (n + 1)).1 a p q h).2
    have hP : ∀ a p q, StD N Mi z n a p q → PgD (-1) p q ∧ p.1 < q.1 := fun _ _ _ h => h.pg
    have hkd : ∀ a p q, StD N Mi z n a p q → ¬ kjS z p.1 = 62 ∧ ¬ kjS z p.1 = 63 := fun _ _ _ h => st_kd h
    have hR : FwRo τ C N z T (RwD (StX z (StD N Mi z n)) z (lvN n)) := fw_row H hP ih
    obtain ⟨t, q1, pg, ⟨lt, t0, _⟩, hI, rfl⟩ := h
    have lt : p.1 < q1.1 := lt
    have hz : q1.1 ≤ snM z := hz
    have hq : (cIy 45 p.2.2.length 0 t :: q1.2.2) <:+ z.2.1 := hq
    have hq1 : q1.2.2 <:+ z.2.1 := (List.suffix_cons _ _).trans hq
    have hd := in_hd hI
    have pgs := pg.sf
    have pgs : p.2.2 <:+ (cIy 45 p.2.2.length 0 t :: q1.2.2) := pgs
    have hj : p.1 < snM z := by omega
    have p20 : ∀ P, TaB P p.2.2 (cIy 20 0 0 t :: p.2.2) := fun P => TaB.rf.c0 rfl
    have key : FwI τ C N z T p.1 q1.1 p.2.1 (cIy 20 0 0 t :: p.2.2) q1.2.2 ∧ (cIy 20 0 0 t :: p.2.2) <:+ q1.2.2 := by
      rcases hI with ⟨m, r, hx, R, rfl⟩ | ⟨m, hv, rfl⟩ | ⟨R, rfl⟩ | ⟨L, hr, R⟩ | ⟨q2, hs, R, rfl⟩ | ⟨m, r, q2, hx, hs, ⟨R, rfl⟩ | ⟨t2, q3, hs2, R, rfl⟩⟩ | ⟨m, r, q2, hx, hs, R, rfl⟩ | ⟨m, r, q2, hs, hx, R, rfl⟩ | ⟨q2, q3, q4, m2, o, g, x, f1, f2, ⟨L, hgL, f3⟩, hs, R, rfl⟩ | ⟨m, r, L, q2, hx, hr, h62, R, rfl⟩ | ⟨q2, q3, q4, o, g, v, B1, B2, B3, hog, R, rfl⟩ | ⟨kd, lk, t2, hk, _, R, rfl⟩ | (⟨R, rfl⟩ | ⟨m, r, hx, ⟨R, rfl⟩ | ⟨R, rfl⟩⟩)
      · exact ⟨fw_xs H hx lv hq1 R.kj R.xj, hx.sf.trans (List.suffix_cons _ _)⟩
      · refine ⟨fw_to H hv lv hq1 ?_, (TaB.va (P := fun _ => True) TaB.rf hv).1⟩
        obtain ⟨v, t, _, hv⟩ := hv
        rcases hv with ⟨R, _⟩ | ⟨_, _, _, _, R, _⟩
        · exact R.kj
        · exact R.kj
      · exact ⟨fw_em R.kj, List.suffix_rfl⟩
      · have ra := (rw_ta hP _ _ _ hr).1
        have c1 : CtX z (p.1 + 1, p.2.1 + 1, cIy 20 0 0 t :: p.2.2) q1 := hc.in_ hq (Nat.le_succ _) (Nat.le_refl _) (p20 _) ra.1 (TaB.rf.c0 rfl)
        exact ⟨fw_bl hR (rw_x hP _ _ _ hr (fun e => absurd e (by decide)) c1 hz hq1) R.kj R.bj hz hq1, ra.1⟩
      · have g := (hP _ _ _ hs).1
        have gs := g.sf
        have g2 := g.2.1
        have g2 : p.2.1 + 1 ≤ q2.2.1 := g2
        have c1 : CtX z (p.1 + 1, p.2.1 + 1, cIy 41 (p.2.1 : Int) 0 t :: cIy 20 0 0 t :: p.2.2) q2 := hc.in_ hq (Nat.le_succ _) (Nat.le_refl _) ((p20 _).ci (fun _ => Or.inl (by show (p.2.1 : Int) < ((p.2.1 + 1 : Nat) : Int); omega))) gs ((TaB.rf.ci (fun _ => Or.inl (by show (p.2.1 : Int) < ((p.2.1 + 1 : Nat) : Int); omega))).c0 rfl)
        exact ⟨fw_la H ih ⟨⟨hs, hz, (List.suffix_cons _ _).trans hq1⟩, c1⟩ hq1 gs R.kj R.bj hj R.thi, (List.suffix_cons _ _).trans (gs.trans (List.suffix_cons _ _))⟩
      · -- if
        have g := (hP _ _ _ hs).1
        have gs := g.sf
        have g2 := g.2.1
        have g2 : p.2.1 + 1 ≤ q2.2.1 := g2
        have hk1 : p.2.1 < q2.2.1 := by omega
        have c1 : CtX z (p.1 + 1, p.2.1 + 1, cEy 23 (p.2.1 : Int) 0 t m :: m) q2 := hc.in_ hq (Nat.le_succ _) (Nat.le_refl _) (((p20 _).x hx).ce (fun _ => Or.inl (by show (p.2.1 : Int) < ((p.2.1 + 1 : Nat) : Int); omega))) gs ((TaB.rf.ci (fun _ => Or.inl (by show (p.2.1 : Int) < ((p.2.1 + 1 : Nat) : Int); omega))).c0 rfl)
        have pq : pqZ 56 (p.2.1 : Int) z.2.1 < 0 := by
          have e := hc.pq (a := 56) hq (Nat.le_refl _) hk1
          have e1 := e.1.1
          have e2 := (e.2 pgs).1
          have e3 := (pq_pg (a := 56) g (Nat.lt_succ_self p.2.1)).1
          have e1 : pqZ 56 (p.2.1 : Int) z.2.1 = pqZ 56 (p.2.1 : Int) (cIy 45 p.2.2.length 0 t :: cIy 25 (p.2.1 : Int) 0 t :: q2.2.2) := e1
          have e3 : pqZ 56 (p.2.1 : Int) q2.2.2 = pqZ 56 (p.2.1 : Int) (cEy 23 (p.2.1 : Int) 0 t m :: m) := e3
          rw [e1, cIy, pq_r (by decide), cIy, pq_r (by decide), e3, cEy, pq_r (by decide), pq_x hx.xs, cIy, pq_r (by decide), e2]
          decide
        exact ⟨fw_if1 H ih hx lv ⟨⟨hs, hz, (List.suffix_cons _ _).trans hq1⟩, c1⟩ hq1 gs R.kj R.bj R.oj R.xj pq, hx.sf.trans ((List.suffix_cons _ _).trans (gs.trans (List.suffix_cons _ _)))⟩
      · -- if, else
        have g := (hP _ _ _ hs).1
        have lt1 := (hP _ _ _ hs).2
        have lt1 : p.1 + 1 < q2.1 := lt1
        have gs := g.sf
        have g2 := g.2.1
        have g2 : p.2.1 + 1 ≤ q2.2.1 := g2
        have h := (hP _ _ _ hs2).1
        have lt2 := (hP _ _ _ hs2).2
        have lt2 : q2.1 < q3.1 := lt2
        have hs' := h.sf
        have h2 := h.2.1
        have h2 : q2.2.1 ≤ q3.2.1 := h2
        have hk1 : p.2.1 < q3.2.1 := by omega
        have hq3 : q3.2.2 <:+ z.2.1 := (List.suffix_cons _ _).trans hq1
        have hq2 : q2.2.2 <:+ z.2.1 := (List.suffix_cons _ _).trans (hs'.trans hq3)
        have c1 : CtX z (p.1 + 1, p.2.1 + 1, cEy 23 (p.2.1 : Int) 0 t m :: m) q2 := hc.in_ hq (Nat.le_succ _) h2 (((p20 _).x hx).ce (fun _ => Or.inl (by show (p.2.1 : Int) < ((p.2.1 + 1 : Nat) : Int); omega))) gs ((((TaB.rf.ci (fun _ => Or.inl (by show (p.2.1 : Int) < ((p.2.1 + 1 : Nat) : Int); omega))).pg (p := (q2.1, q2.2.1, cIy 24 (p.2.1 : Int) 0 t2 :: q2.2.2)) h (fun x c1 c2 => Or.inr c1) (Or.inl (by show (-1 : Int) < ((p.2.1 + 1 : Nat) : Int); omega))).ci (fun _ => Or.inl (by show (p.2.1 : Int) < ((p.2.1 + 1 : Nat) : Int); omega))).c0 rfl)
        have c2 : CtX z (q2.1, q2.2.1, cIy 24 (p.2.1 : Int) 0 t2 :: q2.2.2) q3 := hc.in_ hq (show p.2.1 ≤ q2.2.1 by omega) (Nat.le_refl _) (((((p20 _).x hx).ce (fun _ => Or.inl (by show (p.2.1 : Int) < (q2.2.1 : Int); omega))).pg (p := (p.1 + 1, p.2.1 + 1, cEy 23 (p.2.1 : Int) 0 t m :: m)) g (fun x c1 c2 => Or.inl c2) (Or.inl (by show (-1 : Int) < (q2.2.1 : Int); omega))).ci (fun _ => Or.inl (by show (p.2.1 : Int) < (q2.2.1 : Int); omega))) hs' ((TaB.rf.ci (fun _ => Or.inl (by show (p.2.1 : Int) < (q2.2.1 : Int); omega))).c0 rfl)
        have pq : 0 ≤ pqZ 56 (p.2.1 : Int) z.2.1 := by
          have e := hc.pq (a := 56) hq (Nat.le_refl _) hk1
          have e1 := e.1.1
          have e3 := (pq_pg (a := 56) h (k := p.2.1) (by show p.2.1 < q2.2.1; omega)).1
          have e1 : pqZ 56 (p.2.1 : Int) z.2.1 = pqZ 56 (p.2.1 : Int) (cIy 45 p.2.2.length 0 t :: cIy 25 (p.2.1 : Int) 0 t :: q3.2.2) := e1
          have e3 : pqZ 56 (p.2.1 : Int) q3.2.2 = pqZ 56 (p.2.1 : Int) (cIy 24 (p.2.1 : Int) 0 t2 :: q2.2.2) := e3
          rw [e1, cIy, pq_r (by decide), cIy, pq_r (by decide), e3, cIy, pq_y (by decide)]
          omega
        exact ⟨fw_if2 H ih hx lv ⟨⟨hs, by show q2.1 ≤ snM z; have : q3.1 ≤ snM z := hz; omega, hq2⟩, c1⟩ ⟨⟨hs2, hz, hq3⟩, c2⟩ hq1 gs hs' R.kj R.bj R.oj R.xj pq ⟨lt1, lt2, g2⟩ hz, hx.sf.trans ((List.suffix_cons _ _).trans (gs.trans ((List.suffix_cons _ _).trans (hs'.trans (List.suffix_cons _ _)))))⟩
      · -- while
        have g := (hP _ _ _ hs).1
        have gs := g.sf
        have g2 := g.2.1
        have g2 : p.2.1 + 1 ≤ q2.2.1 := g2
        have c1 : CtX z (p.1 + 1, p.2.1 + 1, cEy 27 (p.2.1 : Int) 0 t m :: m) q2 := hc.in_ hq (Nat.le_succ _) (Nat.le_refl _) ((((p20 _).ci (fun _ => Or.inl (by show (p.2.1 : Int) < ((p.2.1 + 1 : Nat) : Int); omega))).x hx).ce (fun _ => Or.inl (by show (p.2.1 : Int) < ((p.2.1 + 1 : Nat) : Int); omega))) gs ((TaB.rf.ci (fun _ => Or.inl (by show (p.2.1 : Int) < ((p.2.1 + 1 : Nat) : Int); omega))).c0 rfl)
        exact ⟨fw_wh H ih hx lv ⟨⟨hs, hz, (List.suffix_cons _ _).trans hq1⟩, c1⟩ hq1 gs R.kj R.bj R.xj hj R.thi, (List.suffix_cons _ _).trans (hx.sf.trans ((List.suffix_cons _ _).trans (gs.trans (List.suffix_cons _ _))))⟩
      · -- do
        have g := (hP _ _ _ hs).1
        have gs := g.sf
        have g2 := g.2.1
        have g2 : p.2.1 + 1 ≤ q2.2.1 := g2
        have hq2 : q2.2.2 <:+ z.2.1 := ((List.suffix_cons _ _).trans hx.sf).trans ((List.suffix_cons _ _).trans hq1)
        have c1 : CtX z (p.1 + 1, p.2.1 + 1, cIy 29 (p.2.1 : Int) 0 t :: cIy 20 0 0 t :: p.2.2) q2 := hc.in_ hq (Nat.le_succ _) (Nat.le_refl _) ((p20 _).ci (fun _ => Or.inl (by show (p.2.1 : Int) < ((p.2.1 + 1 : Nat) : Int); omega))) gs ((((TaB.rf.ci (fun _ => Or.inl (by show (p.2.1 : Int) < ((p.2.1 + 1 : Nat) : Int); omega))).x hx).ce (fun _ => Or.inl (by show (p.2.1 : Int) < ((p.2.1 + 1 : Nat) : Int); omega))).c0 rfl)
        exact ⟨fw_do (q1 := q2) H ih ⟨⟨hs, hz, hq2⟩, c1⟩ hx lv hq1 gs R.kj R.bj R.xj hj R.thi, (List.suffix_cons _ _).trans (gs.trans ((List.suffix_cons _ _).trans (hx.sf.trans (List.suffix_cons _ _))))⟩
      · -- for
        have g := (hP _ _ _ hs).1
        have lt2 := (hP _ _ _ hs).2
        have lt2 : q3.1 < q4.1 := lt2
        have gs := g.sf
        have g2 := g.2.1
        have g2 : q3.2.1 ≤ q4.2.1 := g2
        have o1 := (mo_fi f1).1.2
        have o1 : p.2.1 + 1 ≤ q2.2.1 := o1
        have o3 := (mo_fx f3).1.2
        have o3 : q2.2.1 ≤ q3.2.1 := o3
        have hq4 : q4.2.2 <:+ z.2.1 := (List.suffix_cons _ _).trans hq1
        have ta : ∀ P : Int → Prop, P (p.2.1 : Int) → TaB P p.2.2 (cIy 35 (p.2.1 : Int) 0 t :: q3.2.2) := fun P hP' => (TaB.fx f3 (((((p20 P).fi f1).ci (fun _ => hP')).fc f2 hP').ci (fun _ => hP'))).ci (fun _ => hP')
        have c1 : CtX z (q3.1, q3.2.1, cIy 35 (p.2.1 : Int) 0 t :: q3.2.2) q4 := hc.in_ hq (show p.2.1 ≤ q3.2.1 by omega) (Nat.le_refl _) (ta _ (Or.inl (by show (p.2.1 : Int) < (q3.2.1 : Int); omega))) gs ((TaB.rf.ci (fun _ => Or.inl (by show (p.2.1 : Int) < (q3.2.1 : Int); omega))).c0 rfl)
        have hk1 : p.2.1 < q4.2.1 := by omega
        have e0 : ∀ a, pqZ a (p.2.1 : Int) z.2.1 = pqZ a (p.2.1 : Int) (cIy 45 p.2.2.length 0 t :: cIy 36 (p.2.1 : Int) 0 t :: q4.2.2) := fun a => (hc.pq (a := a) hq (Nat.le_refl _) hk1).1.1
        have e3 : ∀ a, pqZ a (p.2.1 : Int) q4.2.2 = pqZ a (p.2.1 : Int) (cIy 35 (p.2.1 : Int) 0 t :: q3.2.2) := fun a => (pq_pg (a := a) g (k := p.2.1) (by show p.2.1 < q3.2.1; omega)).1
        have e4 : ∀ a, pqZ a (p.2.1 : Int) q3.2.2 = pqZ a (p.2.1 : Int) (cIy 34 (p.2.1 : Int) 0 t :: m2) := fun a => (pq_ta (TaB.fx (P := fun _ => False) f3 TaB.rf) id).1
        have h54 : pqZ 54 (p.2.1 : Int) z.2.1 = (q3.2.2.length : Int) := by rw [e0, cIy, pq_r (by decide), cIy, pq_r (by decide), e3, cIy, pq_y (by decide)]
        have h53 : pqZ 53 (p.2.1 : Int) z.2.1 = (m2.length : Int) := by rw [e0, cIy, pq_r (by decide), cIy, pq_r (by decide), e3, cIy, pq_r (by decide), e4, cIy, pq_y (by decide)]
        have h55 : pqZ 55 (p.2.1 : Int) z.2.1 = (q4.2.2.length : Int) := by rw [e0, cIy, pq_r (by decide), cIy, pq_y (by decide)]
        exact ⟨fw_fo H ih lv f1 f2 hgL f3 ⟨⟨hs, hz, hq4⟩, c1⟩ hq1 gs R.kj R.bj R.oj R.gj R.xj hj R.thi h54 h53 h55 ⟨by omega, lt2⟩, ((TaB.fx f3 ((((TaB.rf (P := fun _ => True) (l := cIy 20 0 0 t :: p.2.2)).fi f1).ci (fun _ => trivial)).fc f2 trivial |>.ci (fun _ => trivial))).1).trans ((List.suffix_cons _ _).trans (gs.trans (List.suffix_cons _ _)))⟩
      · -- switch
        obtain ⟨ra, rb, rc⟩ := rw_ta hP _ _ _ hr
        have rc : p.2.1 + 1 ≤ q2.2.1 := rc
        have c1 : CtX z (p.1 + 1, p.2.1 + 1, cEy 37 (p.2.1 : Int) 0 t m :: m) q2 := hc.in_ hq (Nat.le_succ _) (Nat.le_refl _) (((p20 _).x hx).ce (fun _ => Or.inl (by show (p.2.1 : Int) < ((p.2.1 + 1 : Nat) : Int); omega))) ra.1 ((TaB.rf.ci (fun _ => Or.inl (by show (p.2.1 : Int) < ((p.2.1 + 1 : Nat) : Int); omega))).c0 rfl)
        have hk1 : p.2.1 < q2.2.1 := by omega
        have e := hc.pq (a := 0) hq (Nat.le_refl _) hk1
        have e1 := e.1.2
        have e1 : dfZ (p.2.1 : Int) z.2.1 = dfZ (p.2.1 : Int) (cIy 45 p.2.2.length 0 t :: cIy 40 (p.2.1 : Int) 0 t :: q2.2.2) := e1
        have e2 := (e.2 pgs).2
        exact ⟨fw_sw H hok hP hkd ih hx lv l0 (rw_x hP _ _ _ hr (fun _ => Nat.lt_succ_self _) c1 hz ((List.suffix_cons _ _).trans hq1)) h62 hq1 R.kj R.bj R.xj hj hz R.thi (by rw [cIy, df_r (by decide), e2]) (by rw [e1, cIy, df_r (by decide), cIy, df_r (by decide)]), hx.sf.trans ((List.suffix_cons _ _).trans (ra.1.trans (List.suffix_cons _ _)))⟩
      · -- try
        obtain ⟨a1, a2, a3⟩ := bk_ta hP B1
        have a2 : p.1 + 1 + 1 ≤ q2.1 := a2
        have a3 : p.2.1 + 1 ≤ q2.2.1 := a3
        have hz4 : q4.1 ≤ snM z := hz
        have hq4 : q4.2.2 <:+ z.2.1 := (List.suffix_cons _ _).trans hq1
        -- from the catch on
        have b2 : (q2.1 ≤ q3.1 ∧ q2.2.1 ≤ q3.2.1) ∧ TaB (fun x => (q2.2.1 : Int) ≤ x ∨ x = (p.2.1 : Int) ∨ x = -1) q2.2.2 q3.2.2 ∧ ∀ P : Int → Prop, P (p.2.1 : Int) → P (-1) → (∀ x, x < (q3.2.1 : Int) → P x) → TaB P q2.2.2 q3.2.2 := by
          rcases B2 with ⟨_, _, e⟩ | ⟨_, _, t2, B⟩
          · rw [e]
            exact ⟨⟨Nat.le_refl _, Nat.le_refl _⟩, TaB.rf, fun _ _ _ _ => TaB.rf⟩
          · obtain ⟨b1, b2, b3⟩ := bk_ta hP B
            have b2 : q2.1 + 1 ≤ q3.1 := b2
            have b3 : q2.2.1 ≤ q3.2.1 := b3
            exact ⟨⟨by omega, b3⟩, (TaB.rf.r (fun _ => Or.inr (Or.inl rfl))).tr (b1.mo (fun x hx => by
              rcases hx with ⟨hx, _⟩ | hx
              · exact Or.inl hx
              · exact Or.inr (Or.inr hx))), fun P h1 h2 h3 => (TaB.rf.r (fun _ => h1)).tr (b1.mo (fun x hx => by
              rcases hx with ⟨_, hx⟩ | hx
              · exact h3 x hx
              · rw [hx]; exact h2))⟩
        have b3 : (q3.1 ≤ q4.1 ∧ q3.2.1 ≤ q4.2.1) ∧ TaB (fun x => (q3.2.1 : Int) ≤ x ∨ x = (p.2.1 : Int) ∨ x = -1) q3.2.2 q4.2.2 := by
          rcases B3 with ⟨_, e⟩ | ⟨_, t2, B⟩
          · rw [e]
            exact ⟨⟨Nat.le_refl _, Nat.le_refl _⟩, TaB.rf⟩
          · obtain ⟨b1, b2, b3⟩ := bk_ta hP B
            have b2 : q3.1 + 1 ≤ q4.1 := b2
            have b3 : q3.2.1 ≤ q4.2.1 := b3
            exact ⟨⟨by omega, b3⟩, (TaB.rf.r (fun _ => Or.inr (Or.inl rfl))).tr (b1.mo (fun x hx => by
              rcases hx with ⟨hx, _⟩ | hx
              · exact Or.inl hx
              · exact Or.inr (Or.inr hx)))⟩
        have hq3 : q3.2.2 <:+ z.2.1 := b3.2.1.trans hq4
        have hq2 : q2.2.2 <:+ z.2.1 := b2.2.1.1.trans hq3
        have hk1 : p.2.1 < q4.2.1 := by omega
        have e0 : ∀ a, pqZ a (p.2.1 : Int) z.2.1 = pqZ a (p.2.1 : Int) (cIy 45 p.2.2.length 0 t :: cIy 53 (p.2.1 : Int) 0 t :: q4.2.2) := fun a => (hc.pq (a := a) hq (Nat.le_refl _) hk1).1.1
        have ep : ∀ a, pqZ a (p.2.1 : Int) p.2.2 = -2 := fun a => ((hc.pq (a := a) hq (Nat.le_refl _) hk1).2 pgs).1
        have e1 : ∀ a, sqZ a 50 = false → pqZ a (p.2.1 : Int) q2.2.2 = -2 := fun a h50 => by
          have := pq_bk (a := a) a1 (k := p.2.1) (Nat.lt_succ_self _)
          have this : pqZ a (p.2.1 : Int) q2.2.2 = pqZ a (p.2.1 : Int) (cIy 50 (p.2.1 : Int) 0 t :: cIy 20 0 0 t :: p.2.2) := this
          rw [this, cIy, pq_r h50, cIy, pq_r (by
            unfold sqZ
            revert h50
            unfold sqZ
            simp), ep]
        have c1 : CtX z (p.1 + 1, p.2.1 + 1, cIy 50 (p.2.1 : Int) 0 t :: cIy 20 0 0 t :: p.2.2) q2 := hc.in_ hq (Nat.le_succ _) (show q2.2.1 ≤ q4.2.1 by omega) ((p20 _).ci (fun _ => Or.inl (by show (p.2.1 : Int) < ((p.2.1 + 1 : Nat) : Int); omega))) a1.1 ((((b2.2.1.mo (fun x hx => by show x < ((p.2.1 + 1 : Nat) : Int) ∨ (q2.2.1 : Int) ≤ x; omega)).tr (b3.2.mo (fun x hx => by show x < ((p.2.1 + 1 : Nat) : Int) ∨ (q2.2.1 : Int) ≤ x; omega))).ci (fun _ => Or.inl (by show (p.2.1 : Int) < ((p.2.1 + 1 : Nat) : Int); omega))).c0 rfl)
        have B1' := bk_x hP B1 c1 (by omega) hq2
        have t1 : ∀ P : Int → Prop, P (p.2.1 : Int) → P (-1) → (∀ x, x < (q2.2.1 : Int) → P x) → TaB P p.2.2 q2.2.2 := fun P h1 h2 h3 => ((p20 P).ci (fun _ => h1)).tr (a1.mo (fun x hx => by
          rcases hx with ⟨_, hx⟩ | hx
          · exact h3 x hx
          · rw [hx]; exact h2))
        have B2' : (o = -1 ∧ v = -1 ∧ q3 = q2) ∨ (o = q2.1 ∧ (0 ≤ v ∧ v < 60) ∧ ∃ t2, BkD (RwD (StX z (StD N Mi z n)) z (lvN n)) z (lvN (n + 1)) p.1 (q2.1, q2.2.1, .inr (51, (p.2.1 : Int), 0, t2, -2 - v) :: q2.2.2) q3 ∧ (.inr (51, (p.2.1 : Int), 0, t2, -2 - v) :: q2.2.2) <:+ q3.2.2 ∧ q2.1 + 1 ≤ q3.1 ∧ q2.2.1 ≤ q3.2.1) := by
          rcases B2 with e | ⟨eo, ev, t2, B⟩
          · exact Or.inl e
          · obtain ⟨c1, c2, c3⟩ := bk_ta hP B
            have c2 : q2.1 + 1 ≤ q3.1 := c2
            have c3 : q2.2.1 ≤ q3.2.1 := c3
            have cc : CtX z (q2.1, q2.2.1, .inr (51, (p.2.1 : Int), 0, t2, -2 - v) :: q2.2.2) q3 := hc.in_ hq (show p.2.1 ≤ q2.2.1 by omega) b3.1.2 ((t1 _ (Or.inl (by show (p.2.1 : Int) < (q2.2.1 : Int); omega)) (Or.inl (by show (-1 : Int) < (q2.2.1 : Int); omega)) (fun x hx => Or.inl hx)).r (fun _ => Or.inl (by show (p.2.1 : Int) < (q2.2.1 : Int); omega))) c1.1 (((b3.2.mo (fun x hx => by show x < (q2.2.1 : Int) ∨ (q3.2.1 : Int) ≤ x; omega)).ci (fun _ => Or.inl (by show (p.2.1 : Int) < (q2.2.1 : Int); omega))).c0 rfl)
            exact Or.inr ⟨eo, ev, t2, bk_x hP B cc (by omega) hq3, c1.1, c2, c3⟩
        have B3' : (g = -1 ∧ q4 = q3) ∨ (g = q3.1 ∧ ∃ t3, BkD (RwD (StX z (StD N Mi z n)) z (lvN n)) z (lvN (n + 1)) p.1 (q3.1, q3.2.1, cIy 52 (p.2.1 : Int) 0 t3 :: q3.2.2) q4 ∧ (cIy 52 (p.2.1 : Int) 0 t3 :: q3.2.2) <:+ q4.2.2 ∧ q3.1 + 1 ≤ q4.1) := by
          rcases B3 with e | ⟨eg, t3, B⟩
          · exact Or.inl e
          · obtain ⟨c1, c2, c3⟩ := bk_ta hP B
            have c2 : q3.1 + 1 ≤ q4.1 := c2
            have c3 : q3.2.1 ≤ q4.2.1 := c3
            have cc : CtX z (q3.1, q3.2.1, cIy 52 (p.2.1 : Int) 0 t3 :: q3.2.2) q4 := hc.in_ hq (show p.2.1 ≤ q3.2.1 by omega) (Nat.le_refl _) (((t1 _ (Or.inl (by show (p.2.1 : Int) < (q3.2.1 : Int); omega)) (Or.inl (by show (-1 : Int) < (q3.2.1 : Int); omega)) (fun x hx => Or.inl (by show x < (q3.2.1 : Int); omega))).tr (b2.2.2 _ (Or.inl (by show (p.2.1 : Int) < (q3.2.1 : Int); omega)) (Or.inl (by show (-1 : Int) < (q3.2.1 : Int); omega)) (fun x hx => Or.inl hx))).ci (fun _ => Or.inl (by show (p.2.1 : Int) < (q3.2.1 : Int); omega))) c1.1 ((TaB.rf.ci (fun _ => Or.inl (by show (p.2.1 : Int) < (q3.2.1 : Int); omega))).c0 rfl)
            exact Or.inr ⟨eg, t3, bk_x hP B cc hz4 hq4, c1.1, c2⟩
        -- rows of the thing
        have f57 : pqZ 57 (p.2.1 : Int) z.2.1 = pqZ 57 (p.2.1 : Int) q3.2.2 := by
          rw [e0, cIy, pq_r (by decide), cIy, pq_r (by decide)]
          rcases B3 with ⟨_, e⟩ | ⟨_, t3, B⟩
          · rw [e]
          · have := pq_bk (a := 57) (bk_ta hP B).1 (k := p.2.1) (by show p.2.1 < q3.2.1; omega)
            have this : pqZ 57 (p.2.1 : Int) q4.2.2 = pqZ 57 (p.2.1 : Int) (cIy 52 (p.2.1 : Int) 0 t3 :: q3.2.2) := this
            rw [this, cIy, pq_r (by decide)]
        have h57 : (0 ≤ o → 0 ≤ pqZ 57 (p.2.1 : Int) z.2.1) ∧ (o < 0 → pqZ 57 (p.2.1 : Int) z.2.1 < 0) := by
          rw [f57]
          rcases B2 with ⟨eo, _, e⟩ | ⟨eo, _, t2, B⟩
          · rw [e, e1 57 (by decide)]
            exact ⟨fun q => by omega, fun _ => by decide⟩
          · have := pq_bk (a := 57) (bk_ta hP B).1 (k := p.2.1) (by show p.2.1 < q2.2.1; omega)
            have this : pqZ 57 (p.2.1 : Int) q3.2.2 = pqZ 57 (p.2.1 : Int) (.inr (51, (p.2.1 : Int), 0, t2, -2 - v) :: q2.2.2) := this
            rw [this, pq_y (by decide)]
            exact ⟨fun _ => by omega, fun q => by omega⟩
        have h58 : (0 ≤ g → pqZ 58 (p.2.1 : Int) z.2.1 = (q3.2.2.length : Int)) ∧ (g < 0 → pqZ 58 (p.2.1 : Int) z.2.1 < 0) := by
          rw [e0, cIy, pq_r (by decide), cIy, pq_r (by decide)]
          rcases B3 with ⟨eg, e⟩ | ⟨eg, t3, B⟩
          · refine ⟨fun q => by omega, fun _ => ?_⟩
            have f3 : pqZ 58 (p.2.1 : Int) q3.2.2 = -2 := by
              rcases B2 with ⟨eo, _, e⟩ | ⟨eo, _, t2, B⟩
              · rw [e]; exact e1 58 (by decide)
              · have := pq_bk (a := 58) (bk_ta hP B).1 (k := p.2.1) (by show p.2.1 < q2.2.1; omega)
                have this : pqZ 58 (p.2.1 : Int) q3.2.2 = pqZ 58 (p.2.1 : Int) (.inr (51, (p.2.1 : Int), 0, t2, -2 - v) :: q2.2.2) := this
                rw [this, pq_r (by decide)]
                exact e1 58 (by decide)
            rw [e, f3]
            decide
          · have := pq_bk (a := 58) (bk_ta hP B).1 (k := p.2.1) (by show p.2.1 < q3.2.1; omega)
            have this : pqZ 58 (p.2.1 : Int) q4.2.2 = pqZ 58 (p.2.1 : Int) (cIy 52 (p.2.1 : Int) 0 t3 :: q3.2.2) := this
            rw [this, cIy, pq_y (by decide)]
            exact ⟨fun _ => rfl, fun q => by omega⟩
        exact ⟨fw_ty H hR B1' B2' B3' hog hq1 a1.1 hz R.kj R.bj R.oj R.gj R.lj h57.1 h57.2 h58.1 h58.2 ⟨a2, a3⟩, (List.suffix_cons _ _).trans (a1.1.trans (b2.2.1.1.trans (b3.2.1.trans (List.suffix_cons _ _))))⟩
      · have h0 : 0 ≤ tjT N z p.1 := (skk_64 (by have := R.kj; omega)).mp (H.1.2 p.1 hj)
        have hc0 := tg_ch (N := N) (z := z) (on := decide (kjS z p.1 = 65)) (lk := ljS z p.1) (snM z) (paS z p.1)
        have eT : tjT N z p.1 = tgZ N z.2.2.1.2 (decide (kjS z p.1 = 65)) (ljS z p.1) (snM z) (paS z p.1) := rfl
        rw [← eT] at hc0
        have pp := H.2.2.2.2 p.1 hj
        have tl : tjT N z p.1 < (snM z : Int) := by
          rcases hc0 with c | c
          · omega
          · have := (ch_le H.2.2.2.2 c (by omega)).1
            omega
        exact ⟨fw_ju hk hq1 R.kj h0 (hth _ (by omega)), List.suffix_cons _ _⟩
      · exact ⟨fw_r0 hq1 R.kj R.xj, List.suffix_cons _ _⟩
      · exact ⟨fw_r1 H hx lv hq1 R.kj R.xj, hx.sf.trans (List.suffix_cons _ _)⟩
      · exact ⟨fw_th H hx lv hq1 R.kj R.xj, hx.sf.trans (List.suffix_cons _ _)⟩
    exact fw_S H key.1 hd t0 hz hq key.2 lt (fun f mm R c1 c2 c3 => hJ f mm R c1 c2 hz c3)
