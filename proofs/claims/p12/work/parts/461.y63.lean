/-! the reference's flow: for -/
/-- at a place, whatever jumps there are -/
def AtG (τ : RS) (C : CxT) (z : ZS) (T : TbT) (M : Int32) (l : List ItZ) (σ : RS) : Prop := (RnR τ σ (plI l) M ∧ ¬ BdF σ) ∧ EnF σ C z T
section
variable {σ τ Y W : RS} {C : CxT} {z : ZS} {T : TbT} {l l' l'' m : List ItZ} {k j lo mid hi b : Nat} {M : Int32} {A : Prop} {u v : Int64} {N : Int → Int} {ms : MfT} {lv a t e : Int} {r : XrZ} {St : SsT} {R S : ReG}
theorem AtF.g (h : AtF τ C z T M l σ) : AtG τ C z T M l σ := ⟨h.1, h.2.1⟩
theorem AtG.mv (h : AtG τ C z T M l σ) (r : RnR τ Y (plI l') M ∧ ¬ BdF Y) (f : FfR σ Y) : AtG τ C z T M l' Y := ⟨r, h.2.fr f⟩
theorem exg_go {mm : Int64} (H : GxF N C z T ms) (h : AtG τ C z T M l σ) (hh : HdR l) (hX : ExX lv l m r) (hl0 : 0 ≤ lv) (hm : m <:+ z.2.1) (hB : Bw σ A mm mm) (k : Nat) : (BdF τ ∧ exD z T ((xcZ m : Int) - 1) mm = none) ∨ ∃ Y e, exD z T ((xcZ m : Int) - 1) mm = some e ∧ AtG τ C z T M m Y ∧ Bw Y A e.1 e.2 ∧ NxT k σ Y := by
  rcases fx_ex H.1.1 H.2.1 h.2.1 hX hl0 hh hm hB.xv h.1.2 h.1.1 with q | ⟨Y, e, e1, r1, b1, x1, v1⟩
  · exact Or.inl q
  · obtain ⟨B, F, Q, R⟩ := x1.bw (k := k) hB v1
    exact Or.inr ⟨Y, e, e1, h.mv ⟨r1, b1⟩ F.1, B, ⟨F, Q.jn, Q.1⟩⟩
theorem fxg_go (H : GxF N C z T ms) (hl0 : 0 ≤ lv) : ∀ (L : List Nat) (p q : Ps), FxD z lv a L p q → q.2.2 <:+ z.2.1 → ∀ (f : Nat) (σ : RS) (mm : Int64), 2 * (q.1 - p.1) ≤ f → AtG τ C z T M p.2.2 σ → HdR p.2.2 → Bw σ A mm mm → (BdF τ ∧ (dF N z T f).1 (hdI L) true mm = none) ∨ ∃ R Y, (dF N z T f).1 (hdI L) true mm = some R ∧ AtG τ C z T M q.2.2 Y ∧ Bw Y A R.2.1 R.2.1 ∧ NxT k σ Y := by
  intro L
  induction L with
  | nil =>
    intro p q h hq f σ mm hf hA hh hw
    rw [show q = p from h, show hdI [] = -1 from rfl, d_r0 (by decide)]
    exact Or.inr ⟨_, σ, rfl, hA, hw, NxT.rf⟩
  | cons j L ih =>
    intro p q h hq f σ mm hf hA hh hw
    obtain ⟨ej, en, t, m, r, D, hx, h2⟩ := h
    have le2 := fx_le h2
    have le2 : p.1 + 1 ≤ q.1 := le2
    subst ej
    have sf : (cEy 21 (acZ r) 0 r.1.2.2.1 m :: m) <:+ q.2.2 := (TaB.fx (P := fun _ => True) (l := cEy 21 (acZ r) 0 r.1.2.2.1 m :: m) h2 TaB.rf).1
    have hm := sf.trans hq
    obtain ⟨f, rfl⟩ : ∃ k, f = k + 2 := ⟨f - 2, by omega⟩
    have hi : inD' (dF N z T f) N z T p.1 mm = (exD z T ((xcZ m : Int) - 1) mm).map (fun e => (true, e.1 &&& e.2, [], [])) := by
      rw [i_90 (Or.inr D.kj)]
      unfold xsD'
      rw [D.xj]
    rw [show hdI (p.1 :: L) = (p.1 : Int) from rfl, d_r1, d_st, d_t, hi, en]
    rcases exg_go H hA hh hx hl0 ((List.suffix_cons _ _).trans hm) hw k with ⟨b1, b2⟩ | ⟨Y, e, e1, A1, w1, n1⟩
    · exact Or.inl ⟨b1, by rw [b2]; rfl⟩
    · obtain ⟨Y2, r2, w2, n2⟩ := go_21 (k := k) A1.2.1 hm A1.1.1 A1.1.2 w1
      have A2 : AtG τ C z T M (cEy 21 (acZ r) 0 r.1.2.2.1 m :: m) Y2 := A1.mv r2 n2.1.1
      rw [e1]
      rcases ih _ _ h2 hq (f + 1) Y2 (e.1 &&& e.2) (by show 2 * (q.1 - (p.1 + 1)) ≤ f + 1; omega) A2 hd_r w2 with ⟨b1, b2⟩ | ⟨R, Y3, e3, A3, w3, n3⟩
      · refine Or.inl ⟨b1, ?_⟩
        show ((dF N z T (f + 1)).1 (hdI L) true (e.1 &&& e.2)).map (apG _) = none
        rw [b2]
        rfl
      · refine Or.inr ⟨apG (true, e.1 &&& e.2, [], [(p.1, mm, true)]) R, Y3, ?_, A3, w3, (n1.tr n2).tr n3⟩
        show ((dF N z T (f + 1)).1 (hdI L) true (e.1 &&& e.2)).map (apG _) = _
        rw [e3]
        rfl
/-- a condition that is not there is always true -/
theorem al_w (E : EnF σ C z T) {k' a t e : Int} (hs : (.inr (33, a, 0, t, e) :: m) <:+ z.2.1) (xj : xjS z j = -1) : (alR σ (plI m) = 0 ↔ (!(alwT z T j 1)) = true) ∧ (neR σ (plI m) = 0 ↔ (!(alwT z T j 0)) = true) := by
  have ke := (jtr_ar (y := (33, a, 0, t, e)) E.1.2.1 hs).2.1 ⟨rfl, rfl⟩
  have pn := (pl_lt E.1 hs).2.2
  have ew : ∀ v, alwT z T j v = decide (v = 1) := fun v => by
    unfold alwT
    rw [if_pos (by rw [xj]; decide)]
  unfold alR neR
  rw [pn, ew, ew, ke.1, ke.2, if_pos (by decide), if_neg (by decide)]
  exact ⟨iff_of_false (by decide) (by decide), iff_of_true rfl rfl⟩
theorem pl_e {x : Int32} {L : List ItZ} {n : Int} (h : x.toInt = n) (e : n = (L.length : Int)) (hn : L.length ≤ 4000) : x = plI L := i32_lit (by
  show x.toInt = (Int32.ofInt (L.length : Int)).toInt
  rw [i32_nat hn, h, e])
/-- for -/
theorem fw_fo (H : GxF N C z T ms) (hS : FwSo τ C N z T St) {q1 q3 q4 : Ps} {m2 : List ItZ} {o g x t0 t1 t2 t3 t4 : Int} {L : List Nat} (hl0 : 0 ≤ lv) (f1 : FiD z lv j o (j + 1, k + 1, l) q1) (f2 : FcD lv k t1 x (cIy 32 k 0 t0 :: q1.2.2) m2) (hg : g = hdI L) (f3 : FxD z lv (j : Int) L (q1.1, q1.2.1, cIy 34 k 0 t2 :: m2) q3) (hs : St j (q3.1, q3.2.1, cIy 35 k 0 t3 :: q3.2.2) q4) (hm : (cIy 36 k 0 t4 :: q4.2.2) <:+ z.2.1) (sf : (cIy 35 k 0 t3 :: q3.2.2) <:+ q4.2.2) (hk : kjS z j = 60) (hb : bjS z j = (q3.1 : Int)) (ho : ojS z j = o) (gj : gjS z j = g) (xj : xjS z j = x) (hj : j < snM z) (hth : thS z j = (k : Int)) (h54 : pqZ 54 (k : Int) z.2.1 = (q3.2.2.length : Int)) (h53 : pqZ 53 (k : Int) z.2.1 = (m2.length : Int)) (h55 : pqZ 55 (k : Int) z.2.1 = (q4.2.2.length : Int)) (hle : k + 1 ≤ q3.2.1 ∧ q3.1 < q4.1) : FwI τ C N z T j q4.1 k l (cIy 36 k 0 t4 :: q4.2.2) := by
  intro f M σ mm hf hB hO hw
  rw [i_58 (Or.inr hk)]
  unfold whD'
  rw [if_pos hk, ho, xj]
  -- what lies where
  have hq4 : q4.2.2 <:+ z.2.1 := (List.suffix_cons _ _).trans hm
  have s35 : (cIy 35 k 0 t3 :: q3.2.2) <:+ z.2.1 := sf.trans hq4
  have hq3 : q3.2.2 <:+ z.2.1 := (List.suffix_cons _ _).trans s35
  have s34 : (cIy 34 k 0 t2 :: m2) <:+ q3.2.2 := (TaB.fx (P := fun _ => True) (l := cIy 34 k 0 t2 :: m2) f3 TaB.rf).1
  have s34z : (cIy 34 k 0 t2 :: m2) <:+ z.2.1 := s34.trans hq3
  have hm2 : m2 <:+ z.2.1 := (List.suffix_cons _ _).trans s34z
  have s32 : (cIy 32 k 0 t0 :: q1.2.2) <:+ m2 := (TaB.fc (P := fun _ => True) (l := cIy 32 k 0 t0 :: q1.2.2) TaB.rf f2 trivial).1
  have s32z : (cIy 32 k 0 t0 :: q1.2.2) <:+ z.2.1 := s32.trans hm2
  have hq1 : q1.2.2 <:+ z.2.1 := (List.suffix_cons _ _).trans s32z
  have s1 : l <:+ q1.2.2 := (TaB.fi (P := fun _ => True) (l := l) TaB.rf f1).1
  have n1 := s1.length_le
  have n2 := s32.length_le
  have n3 := s34.length_le
  have n4 := sf.length_le
  have n5 := hm.length_le
  rw [List.length_cons] at n2 n3 n4 n5
  have A0 := hB.1
  have l4 := A0.2.1.1.1.2.2
  have le1 : j + 1 ≤ q1.1 := fi_le f1
  have le3 := fx_le f3
  have le3 : q1.1 ≤ q3.1 := le3
  rcases fi_go (k := k) H hl0 f1 hq1 (f := f) (by show 2 * (q1.1 - (j + 1)) ≤ f; omega) A0 hB.2.1 hw with ⟨c1, c2⟩ | ⟨I, Y1, e1, _, A1, w1, nx1⟩
  · exact Or.inl ⟨c1, by rw [c2]; rfl⟩
  rw [e1, Option.bind_some]
  obtain ⟨Y2, r2, b2, w2, nx2, _⟩ := go_no (k := k) A1.2.1.1 s32z A1.1.1 A1.1.2 (by show (32 : Int) = 26 ∨ (32 : Int) = 29 ∨ (32 : Int) = 32 ∨ (32 : Int) = 34 ∨ (32 : Int) = 41; decide) w1
  have A2 : AtF τ C z T M (cIy 32 k 0 t0 :: q1.2.2) Y2 := A1.mv ⟨r2, b2⟩ nx2.1.1 nx2.2.2 (Nat.le_succ _)
  -- behind the updates stands the body
  obtain ⟨x0, L0, eL, hx0⟩ : ∃ x0 L0, q3.2.2 = x0 :: L0 ∧ ∀ y, x0 = .inr y → ¬ y.1 = 54 := by
    cases L with
    | nil =>
      have e : q3 = (q1.1, q1.2.1, cIy 34 k 0 t2 :: m2) := f3
      rw [e]
      exact ⟨_, _, rfl, fun y q => by cases q; show ¬ (34 : Int) = 54; decide⟩
    | cons i L =>
      have key : ∀ (L : List Nat) (p q : Ps), FxD z lv (j : Int) L p q → (∃ y l', p.2.2 = .inr y :: l' ∧ ¬ y.1 = 54) → ∃ y l', q.2.2 = .inr y :: l' ∧ ¬ y.1 = 54 := by
        intro L
        induction L with
        | nil => intro p q h c; rw [show q = p from h]; exact c
        | cons i L ih =>
          intro p q ⟨_, _, t, m, r, D, hx, h⟩ c
          exact ih _ _ h ⟨_, _, rfl, by show ¬ (21 : Int) = 54; decide⟩
      obtain ⟨y, l', e, ny⟩ := key _ _ _ f3 ⟨_, _, rfl, by show ¬ (34 : Int) = 54; decide⟩
      exact ⟨_, _, e, fun y' q => by cases q; exact ny⟩
  have hq3' : (x0 :: L0) <:+ z.2.1 := by rw [← eL]; exact hq3
  -- the condition
  have cond : (BdF τ ∧ exD z T x I.2.1 = none) ∨ ∃ Y4 e, exD z T x I.2.1 = some e ∧ AtF τ C z T M q3.2.2 Y4 ∧ Bw Y4 ((!(alwT z T j 0)) = true) e.1 e.1 ∧ NxT k Y2 Y4 ∧ aL Y4 98 k = (if x < 0 then allB else e.2) ∧ (aI Y4 97 k = 0 ↔ (!(alwT z T j 1)) = true) ∧ aI Y4 95 k = 0 := by
    rcases f2 with ⟨ex, rfl⟩ | ⟨m0, r, hx, ex, rfl⟩
    · have av := al_w (k' := 0) (m := cIy 32 k 0 t0 :: q1.2.2) A2.2.1 hm2 (by rw [xj, ex])
      have hd : aI Y2 54 k = plI (x0 :: L0) := by
        rw [← eL]
        exact pl_e (en_pq A2.2.1 (a := 54) hm2 rfl (show thO 33 = true by decide) (by omega) (by omega)) h54 (by omega)
      obtain ⟨Y4, r4, w4, nx4, q1', q2', q3'⟩ := go_33 A2.2.1.1 hm2 A2.1.1 A2.1.2 w2 av (w := allB) (if_pos rfl) hq3' hx0 hd
      rw [← eL] at r4
      refine Or.inr ⟨Y4, (I.2.1, I.2.1), exd_n (by rw [ex]; decide), A2.mv r4 nx4.1.1 nx4.2.2 (by rw [List.length_cons]; omega), w4, nx4, ?_, q2', q3'⟩
      rw [q1', ex, if_pos (by decide)]
    · have hm0 : m0 <:+ z.2.1 := (List.suffix_cons _ _).trans hm2
      rcases ex_go H A2 hd_r hx hl0 hm0 w2 k with ⟨c1, c2⟩ | ⟨Y3, e, e3, A3, w3, nx3, _⟩
      · exact Or.inl ⟨c1, by rw [ex]; exact c2⟩
      have av := al_v H A3.2.1 hx hm2 (Or.inr (Or.inr ⟨rfl, by decide⟩)) (by rw [xj, ex]) (Or.inr (Or.inr hk)) hj
      have hd : aI Y3 54 k = plI (x0 :: L0) := by
        rw [← eL]
        exact pl_e (en_pq A3.2.1 (a := 54) hm2 rfl (show thO 33 = true by decide) (by omega) (by omega)) h54 (by omega)
      obtain ⟨Y4, r4, w4, nx4, q1', q2', q3'⟩ := go_33 A3.2.1.1 hm2 A3.1.1 A3.1.2 w3 av (w := e.2) (if_neg (by decide)) hq3' hx0 hd
      rw [← eL] at r4
      rw [List.length_cons] at n3
      refine Or.inr ⟨Y4, e, by rw [ex]; exact e3, A3.mv r4 nx4.1.1 nx4.2.2 (by omega), w4, nx3.tr nx4, ?_, q2', q3'⟩
      rw [q1', ex, if_neg (by have := hx.nn.2.1; omega)]
  rcases cond with ⟨c1, c2⟩ | ⟨Y4, e, e4, A4, w4, nx4, s98, s97, s95⟩
  · exact Or.inl ⟨c1, by rw [c2]; rfl⟩
  rw [e4, Option.bind_some, bdD_e hb]
  obtain ⟨Y5, r5, w5, nx5, ro5⟩ := go_35a (k := k) A4.2.1.1 s35 A4.1.1 A4.1.2 w4 s95
  have A5 : AtF τ C z T M (cIy 35 k 0 t3 :: q3.2.2) Y5 := A4.mv r5 nx5.1.1 nx5.2.2 (Nat.le_succ _)
  have nx := ((nx1.tr nx2).tr nx4).tr nx5
  have B5 := hB.mv (lo' := q3.1) A5 nx hd_r (by rw [List.length_cons]; omega) (by omega)
  rcases hS _ _ _ hs f M Y5 (!(alwT z T j 0)) e.1 (by show 2 * (q4.1 - q3.1) ≤ f + 1; omega) (by show (j : Int) < ((q3.1 : Nat) : Int); omega) B5 w5 with ⟨c1, c2⟩ | ⟨R, Y6, e6, B6, w6, J6, F6, G6⟩
  · have c2 : (dF N z T f).2.2 q3.1 (!(alwT z T j 0)) e.1 = none := c2
    exact Or.inl ⟨c1, by rw [c2]; rfl⟩
  have e6 : (dF N z T f).2.2 q3.1 (!(alwT z T j 0)) e.1 = some R := e6
  rw [e6, Option.bind_some, if_pos hk, gj, hg]
  have A6 := B6.1
  have rk := F6.2 k (by show k < q3.2.1; omega)
  have J6' : JsH z (l.length : Int) (q4.2.2.length : Int) (jnS σ) Y6 R.2.2.1 := by
    rw [nx.2.1] at J6
    exact J6.wd (by show (l.length : Int) ≤ (((cIy 35 k 0 t3 :: q3.2.2).length : Nat) : Int); rw [List.length_cons]; omega) (Int.le_refl _)
  have CH : CmH z j k := ⟨H.2.2.1, hj, by unfold OwK; omega, hth⟩
  have hd36 : aI Y6 53 k = plI m2 := pl_e (en_pq A6.2.1 (a := 53) hm rfl (show thO 36 = true by decide) (by omega) (by omega)) h53 (by omega)
  obtain ⟨Y7, r7, w7, f7, J7, q95, q98, q97⟩ := go_36 (x := cIy 34 k 0 t2) (L := m2) A6.2.1.1 hm A6.1.1 A6.1.2 w6 CH hO J6' s34z (fun y q => by cases q; show ¬ (34 : Int) = 54; decide) hd36
  rw [an_id] at w7
  have A7 : AtG τ C z T M (cIy 34 k 0 t2 :: m2) Y7 := A6.g.mv r7 f7.1.1
  rcases fxg_go (k := k + 1) H hl0 L _ _ f3 hq3 f Y7 (R.2.1 &&& cmB (j : Int) true R.2.2.1) (by show 2 * (q3.1 - q1.1) ≤ f; omega) A7 hd_r w7 with ⟨c1, c2⟩ | ⟨U, Y8, e8, A8, w8, nx8⟩
  · exact Or.inl ⟨c1, by rw [c2]; rfl⟩
  have r8 := nx8.1.2.1 k (by omega)
  have hd35 : aI Y8 55 k = plI q4.2.2 := pl_e (en_pq A8.2 (a := 55) hm rfl (show thO 36 = true by decide) (by omega) (by omega)) h55 (by omega)
  obtain ⟨Y9, r9, w9, f9, J9⟩ := go_35b (x := cIy 36 k 0 t4) (L := q4.2.2) A8.2.1 s35 A8.1.1 A8.1.2 w8 CH hO (J7.q nx8.2.1) (P1 := (!(alwT z T j 1)) = true) (by rw [r8.2.2.1, q97, rk.2.2.1, (ro5 k).2.2.1]; exact s97) (by rw [r8.1]; exact q95) hm (fun y q => by cases q; show ¬ (36 : Int) = 54; decide) hd35
  rw [r8.2.2.2.1, q98, rk.2.2.2.1, (ro5 k).2.2.2.1, s98, cmB_ne (fun q => by cases q.2), cmA_ne (fun q => by cases q.2)] at w9
  have A9 : AtF τ C z T M (cIy 36 k 0 t4 :: q4.2.2) Y9 := ⟨r9, A8.2.fr f9.1.1, by
    obtain ⟨n, c1, c2⟩ := A6.2.2
    exact ⟨n, by rw [f9.2, nx8.2.2, f7.2]; exact c1, by rw [List.length_cons]; omega⟩⟩
  refine Or.inr ⟨(!(alwT z T j 1) || cmA (j : Int) false R.2.2.1, (if x < 0 then allB else e.2) &&& cmB (j : Int) false R.2.2.1, cmR (j : Int) false (cmR (j : Int) true R.2.2.1), R.2.2.2), Y9, by rw [e8]; rfl, A9, w9.cg or_tt.symm, J9.jk.wd (Int.le_refl _) (by rw [List.length_cons]; omega), ((((nx.1.fz).tr (F6.mo (by show k ≤ q3.2.1; omega))).q f7.1 (Nat.le_refl _)).q nx8.1 (Nat.le_succ _)).q f9.1 (Nat.le_refl _), ((((G6.q f7.1).q nx8.1).q f9.1).qb nx.1).wd (by show j + 1 ≤ q3.1; omega) (Nat.le_refl _)⟩
end
