/-! CONSTANT exps: all parts are CONSTANT, and what is assigned stays -/
section
variable {C : CxT} {U T : TbT} {i : Nat} {x : XrZ} {e : TvT}
theorem cn_op {xs : Nat → XrZ} (hx : xs i = x) (h : exT C U i x = some e) (hc : ¬ e.2.1 = 0) (h0 : U.1 i = (t0T C.1 xs).1 i) (hk : 0 ≤ x.1.1 ∧ x.1.1 ≤ 10) : (¬ x.1.1 = 6 ∧ ¬ x.1.1 = 9 ∧ ¬ x.1.1 = 10) ∧ ∀ q ∈ opsZ x, ¬ (opT U q).2.1 = 0 := by
  have i0 : (U.1 i).2.1 = coX x := by
    rw [h0]
    show coX (xs i) = _
    rw [hx]
  have co : ¬ (x.1.1 = 0 ∨ x.1.1 = 1) → (U.1 i).2.1 = 0 := fun q => by
    rw [i0]
    exact if_neg q
  have kk : x.1.1 = 0 ∨ x.1.1 = 1 ∨ x.1.1 = 2 ∨ x.1.1 = 3 ∨ x.1.1 = 4 ∨ x.1.1 = 5 ∨ x.1.1 = 6 ∨ x.1.1 = 7 ∨ x.1.1 = 8 ∨ x.1.1 = 9 ∨ x.1.1 = 10 := by omega
  unfold exT at h
  unfold opsZ
  rcases kk with k | k | k | k | k | k | k | k | k | k | k
  · rw [if_neg (by omega), if_neg (by omega), if_neg (by omega), if_neg (by omega), if_neg (by omega)]
    exact ⟨by omega, fun q hq => absurd hq List.not_mem_nil⟩
  · rw [if_neg (by omega), if_neg (by omega), if_neg (by omega), if_neg (by omega), if_neg (by omega)]
    exact ⟨by omega, fun q hq => absurd hq List.not_mem_nil⟩
  · rw [if_neg (by omega), if_neg (by omega), if_neg (by omega), if_neg (by omega), if_neg (by omega)]
    exact ⟨by omega, fun q hq => absurd hq List.not_mem_nil⟩
  · rw [if_neg (by omega), if_neg (by omega), if_pos k] at h
    rw [if_pos (by omega)]
    refine ⟨by omega, fun q hq => ?_⟩
    rw [List.mem_singleton.mp hq]
    unfold x3T at h
    cases h
    exact hc
  · rw [if_neg (by omega), if_neg (by omega), if_neg (by omega), if_pos k] at h
    rw [if_pos (by omega)]
    refine ⟨by omega, fun q hq => ?_⟩
    rw [List.mem_singleton.mp hq]
    unfold x4T at h
    split at h
    · cases h
      exact hc
    · cases h
  · rw [if_neg (by omega), if_neg (by omega), if_neg (by omega), if_neg (by omega), if_pos k] at h
    rw [if_pos (by omega)]
    refine ⟨by omega, fun q hq => ?_⟩
    rw [List.mem_singleton.mp hq]
    unfold x5T at h
    split at h
    · cases h
      exact hc
    · cases h
  · rw [if_neg (by omega), if_neg (by omega), if_neg (by omega), if_neg (by omega), if_neg (by omega), if_pos k] at h
    unfold x6T at h
    split at h
    · cases h
      exact absurd (co (by omega)) hc
    · cases h
  · rw [if_neg (by omega), if_neg (by omega), if_neg (by omega), if_neg (by omega), if_neg (by omega), if_neg (by omega), if_pos k] at h
    rw [if_neg (by omega), if_pos k]
    have key : ¬ (opT U x.2.2.1.2.1).2.1 = 0 ∧ ¬ (opT U x.2.2.1.2.2.1).2.1 = 0 := by
      unfold x7T at h
      split at h
      · cases h
        have hc : ¬ csT x.1.2.1 (opT U x.2.2.1.2.1) (opT U x.2.2.1.2.2.1) = 0 := hc
        unfold csT at hc
        split at hc
        · rename_i q
          exact ⟨q.1, q.2.1⟩
        · exact absurd rfl hc
      · cases h
    refine ⟨by omega, fun q hq => ?_⟩
    rcases List.mem_cons.mp hq with rfl | hq
    · exact key.2
    · rw [List.mem_singleton.mp hq]
      exact key.1
  · rw [if_neg (by omega), if_neg (by omega), if_neg (by omega), if_neg (by omega), if_neg (by omega), if_neg (by omega), if_neg (by omega), if_pos k] at h
    rw [if_neg (by omega), if_neg (by omega), if_pos k]
    have key : (¬ (opT U x.2.2.1.2.1).2.1 = 0 ∧ ¬ (opT U x.2.2.1.2.2.1).2.1 = 0) ∧ ¬ (opT U x.2.2.1.2.2.2.1).2.1 = 0 := by
      unfold x8T at h
      split at h
      · cases h
        have hc : ¬ (if (¬ (opT U x.2.2.1.2.1).2.1 = 0 ∧ ¬ (opT U x.2.2.1.2.2.1).2.1 = 0) ∧ ¬ (opT U x.2.2.1.2.2.2.1).2.1 = 0 then (1 : Int) else 0) = 0 := hc
        split at hc
        · rename_i q
          exact q
        · exact absurd rfl hc
      · cases h
    refine ⟨by omega, fun q hq => ?_⟩
    rcases List.mem_cons.mp hq with rfl | hq
    · exact key.2
    · rcases List.mem_cons.mp hq with rfl | hq
      · exact key.1.2
      · rw [List.mem_singleton.mp hq]
        exact key.1.1
  · rw [if_neg (by omega), if_neg (by omega), if_neg (by omega), if_neg (by omega), if_neg (by omega), if_neg (by omega), if_neg (by omega), if_neg (by omega), if_pos k] at h
    unfold x9T at h
    split at h
    · cases h
      exact absurd (co (by omega)) hc
    · cases h
  · rw [if_neg (by omega), if_neg (by omega), if_neg (by omega), if_neg (by omega), if_neg (by omega), if_neg (by omega), if_neg (by omega), if_neg (by omega), if_neg (by omega), if_pos k] at h
    unfold xaT at h
    split at h
    · cases h
      exact absurd (co (by omega)) hc
    · cases h
end
/-- what holds, whatever way it is gone -/
def phW (w : WzS) : Int64 := (w.1 &&& w.2.1) &&& w.2.2.1.foldr (· &&& ·) allB
section
variable {w : WzS} {t : TvT} {a b c d : Int64}
theorem ph_a : (a &&& a) &&& (b &&& c) = (a &&& b) &&& c := b64_e (fun i _ => by
  simp only [b64_and]
  cases a.toBitVec.getLsbD i <;> cases b.toBitVec.getLsbD i <;> cases c.toBitVec.getLsbD i <;> rfl)
theorem ph_b : (b &&& b) &&& (a &&& c) = (a &&& b) &&& c := b64_e (fun i _ => by
  simp only [b64_and]
  cases a.toBitVec.getLsbD i <;> cases b.toBitVec.getLsbD i <;> cases c.toBitVec.getLsbD i <;> rfl)
theorem ph_c : (c &&& c) &&& (b &&& (a &&& d)) = (a &&& b) &&& (c &&& d) := b64_e (fun i _ => by
  simp only [b64_and]
  cases a.toBitVec.getLsbD i <;> cases b.toBitVec.getLsbD i <;> cases c.toBitVec.getLsbD i <;> cases d.toBitVec.getLsbD i <;> rfl)
theorem ph_d : (a &&& (b &&& c)) &&& d = (a &&& b) &&& (c &&& d) := b64_e (fun i _ => by
  simp only [b64_and]
  cases a.toBitVec.getLsbD i <;> cases b.toBitVec.getLsbD i <;> cases c.toBitVec.getLsbD i <;> cases d.toBitVec.getLsbD i <;> rfl)
theorem ph_f : ((a &&& c) &&& b) &&& d = (a &&& b) &&& (c &&& d) := b64_e (fun i _ => by
  simp only [b64_and]
  cases a.toBitVec.getLsbD i <;> cases b.toBitVec.getLsbD i <;> cases c.toBitVec.getLsbD i <;> cases d.toBitVec.getLsbD i <;> rfl)
theorem ph_jn : phW (jnT t zerB w) = phW w := by
  unfold phW jnT
  rw [or_ze]
  congr 1
  by_cases c1 : (fxT t && decide (t.2.2.1 = zerB)) = true
  · have n : ¬ (fxT t && decide (t.2.2.1 = Int64.ofNat ((1 : Fin 2) : Nat))) = true := fun q => by
      rw [Bool.and_eq_true, decide_eq_true_eq] at c1 q
      exact absurd (c1.2.symm.trans q.2) (by decide)
    rw [if_pos c1, if_neg n, al_an]
  · rw [if_neg c1]
    split
    · exact an_al
    · exact an_id
theorem ph_to (h : w.2.2.1.length < 500) {m : Int64} : toA m w = (w.1, w.2.1, m :: w.2.2.1, w.2.2.2) := if_pos h
theorem ph_fk1 (h : w.2.2.1.length < 500) : phW (fkW w.2.1 w.1 w) = phW w := by
  unfold fkW beW
  rw [ph_to h]
  exact ph_a
theorem ph_fk2 (h : w.2.2.1.length < 500) : phW (fkW w.1 w.2.1 w) = phW w := by
  unfold fkW beW
  rw [ph_to h]
  exact ph_b
theorem ph_af : phW (andF w) = phW w := by
  obtain ⟨u, v, A, e⟩ := w
  cases A with
  | nil =>
    show (u &&& (v &&& allB)) &&& allB = (u &&& v) &&& allB
    rw [an_al (a := v)]
  | cons x A => exact ph_d
theorem ph_at : phW (andT w) = phW w := by
  obtain ⟨u, v, A, e⟩ := w
  cases A with
  | nil =>
    show ((u &&& allB) &&& v) &&& allB = (u &&& v) &&& allB
    rw [an_al (a := u)]
  | cons x A => exact ph_f
theorem ph_el (h : w.2.2.1.length < 499) : phW (elW w) = phW w := by
  obtain ⟨u, v, A, e⟩ := w
  have h : A.length < 499 := h
  cases A with
  | nil =>
    show phW (elW (u, v, [], e)) = _
    have e1 : elW (u, v, [], e) = (allB, allB, [v, u], e) := rfl
    rw [e1]
    show (allB &&& allB) &&& (v &&& (u &&& allB)) = (u &&& v) &&& allB
    rw [an_id, al_an, an_al, an_al, an_co]
  | cons x A =>
    rw [List.length_cons] at h
    have e0 : elW (u, v, x :: A, e) = (fun (q : Int64 × WzS) => beW q.1 (toA q.2.2.1 (toA q.2.1 q.2))) (x, (u, v, A, e)) := rfl
    have e1 : toA u (u, v, A, e) = (u, v, u :: A, e) := if_pos (by show A.length < 500; omega)
    have e2 : toA v (u, v, u :: A, e) = (u, v, v :: u :: A, e) := if_pos (by show (u :: A).length < 500; rw [List.length_cons]; omega)
    rw [e0]
    show phW (beW x (toA v (toA u (u, v, A, e)))) = _
    rw [e1, e2]
    exact ph_c
/-- one exp or mark of a CONSTANT one -/
theorem ph_pa {x : XrZ} (hk : 0 ≤ x.1.1 ∧ x.1.1 ≤ 13) (h9 : ¬ x.1.1 = 9 ∧ ¬ x.1.1 = 6) (h2 : x.1.1 = 2 → ¬ t.2.1 = 0) (hl : w.2.2.1.length < 499) : phW (paW x t w) = phW w ∧ (paW x t w).2.2.2 = w.2.2.2 := by
  have er1 : (andF w).2.2.2 = w.2.2.2 := by obtain ⟨u, v, A, e⟩ := w; cases A <;> rfl
  have er2 : ∀ w : WzS, (andT w).2.2.2 = w.2.2.2 := fun w => by obtain ⟨u, v, A, e⟩ := w; cases A <;> rfl
  have ert : ∀ (m : Int64) (w : WzS), (toA m w).2.2.2 = w.2.2.2 := fun m w => by unfold toA; split <;> rfl
  by_cases c3 : x.1.1 = 3
  · rw [pa_3 c3]; exact ⟨rfl, rfl⟩
  by_cases c11 : x.1.1 = 11
  · rw [pa_11 c11]
    split
    · exact ⟨ph_fk1 (by omega), ert _ _⟩
    · exact ⟨ph_fk2 (by omega), ert _ _⟩
  by_cases c12 : x.1.1 = 12
  · rw [pa_12 c12]
    exact ⟨ph_fk1 (by omega), ert _ _⟩
  by_cases c13 : x.1.1 = 13
  · rw [pa_13 c13]
    refine ⟨ph_el hl, ?_⟩
    obtain ⟨u, v, A, e⟩ := w
    cases A with
    | nil => exact (ert _ _).trans (ert _ _)
    | cons y A => exact (ert _ _).trans (ert _ _)
  by_cases c8 : x.1.1 = 8
  · rw [pa_8 c8]
    exact ⟨ph_at.trans ph_af, (er2 _).trans er1⟩
  by_cases c7 : x.1.1 = 7
  · rw [pa_7 c7]
    unfold chW
    split
    · exact ⟨ph_af, er1⟩
    split
    · exact ⟨ph_at, er2 w⟩
    · exact ⟨ph_jn, rfl⟩
  by_cases c4 : x.1.1 = 4
  · rw [pa_4 c4]
    split
    · refine ⟨?_, rfl⟩
      show (w.2.1 &&& w.1) &&& _ = (w.1 &&& w.2.1) &&& _
      rw [an_co (a := w.2.1)]
    · exact ⟨rfl, rfl⟩
  by_cases c2 : x.1.1 = 2
  · rw [pa_2 (Or.inl c2)]
    unfold tkW
    rw [if_neg (fun q => h2 c2 q.1)]
    exact ⟨ph_jn, rfl⟩
  · rw [pa_o (by omega)]
    exact ⟨ph_jn, rfl⟩
end
section
variable {C : CxT} {z : ZS} {T : TbT} {l : List ItZ}
/-- all parts of a CONSTANT exp -/
theorem cn_all (H : ZjD C z T) {U : List Int} (hU : SkP l U) : ∀ (t : List XrZ) (P : List Int), (∀ x ∈ t, x.1.1 ≤ 14) → (t.map Sum.inl ++ l) <:+ z.2.1 → SkP (t.map Sum.inl ++ l) (P ++ U) → (∀ q ∈ P, ¬ (opT T q).2.1 = 0) → ∀ x u, (x :: u) <:+ t → x.1.1 ≤ 10 → ¬ (T.1 (xcZ (u.map Sum.inl ++ l))).2.1 = 0 ∧ ¬ x.1.1 = 6 ∧ ¬ x.1.1 = 9 := by
  intro t
  induction t with
  | nil => intro P _ _ _ _ x u h; exact absurd (List.eq_nil_of_suffix_nil h) (by intro q; cases q)
  | cons y t ih =>
    intro P hk hs hS hP x u hx hx10
    have hs : (.inl y :: (t.map Sum.inl ++ l)) <:+ z.2.1 := hs
    have hs' : (t.map Sum.inl ++ l) <:+ z.2.1 := (List.suffix_cons _ _).trans hs
    have hi : xcZ (t.map Sum.inl ++ l) < xnM z := xc_sf hs
    have ye : xth z (xcZ (t.map Sum.inl ++ l)) = y := xg_at hs
    have y0 := (H.2.2.1 _ hi).1
    rw [ye] at y0
    have hS : SkP (.inl y :: (t.map Sum.inl ++ l)) (P ++ U) := hS
    obtain ⟨A, a1, a2⟩ := hS
    have key : ∃ P', A = P' ++ U ∧ (∀ q ∈ opsZ y ++ P', ¬ (opT T q).2.1 = 0) ∧ (y.1.1 ≤ 10 → ¬ (T.1 (xcZ (t.map Sum.inl ++ l))).2.1 = 0 ∧ ¬ y.1.1 = 6 ∧ ¬ y.1.1 = 9) := by
      by_cases c : y.1.1 ≤ 10
      · have e1 : P ++ U = (xcZ (t.map Sum.inl ++ l) : Int) :: A := by
          rw [a1]
          show (if y.1.1 ≤ 10 then _ else _) ++ A = _
          rw [if_pos c]
          rfl
        cases P with
        | nil =>
          have := (sk_rg hU (xcZ (t.map Sum.inl ++ l) : Int) (by rw [show U = _ from e1]; exact List.mem_cons_self)).2
          have g : xcZ l ≤ xcZ (t.map Sum.inl ++ l) := xc_sf ⟨_, rfl⟩
          omega
        | cons q P =>
          obtain ⟨e2, e3⟩ := List.cons.inj e1
          have cq : ¬ (T.1 (xcZ (t.map Sum.inl ++ l))).2.1 = 0 := by
            have := hP q List.mem_cons_self
            rw [e2] at this
            unfold opT at this
            rw [Int.toNat_natCast] at this
            exact this
          obtain ⟨V, v1, v2, v3⟩ := jd_y H.1 hi
          rw [ye] at v1
          obtain ⟨⟨w6, w9, _⟩, w1⟩ := cn_op ye v1 cq v3 ⟨y0, c⟩
          refine ⟨P, e3.symm, fun r hr => ?_, fun _ => ⟨cq, w6, w9⟩⟩
          rcases List.mem_append.mp hr with hr | hr
          · have rg := sk_rg a2 r (List.mem_append_left _ hr)
            have := w1 r hr
            unfold opT at this ⊢
            rw [v2 _ (by omega)] at this
            exact this
          · exact hP r (List.mem_cons_of_mem _ hr)
      · have e1 : P ++ U = A := by
          rw [a1]
          show (if y.1.1 ≤ 10 then _ else _) ++ A = _
          rw [if_neg c]
          rfl
        refine ⟨P, e1.symm, fun r hr => ?_, fun q => absurd q c⟩
        have o : opsZ y = [] := by
          have := hk y List.mem_cons_self
          unfold opsZ
          rw [if_neg (by omega), if_neg (by omega), if_neg (by omega), if_neg (by omega), if_neg (by omega)]
        rw [o] at hr
        exact hP r hr
    obtain ⟨P', p1, p2, p3⟩ := key
    rcases List.suffix_cons_iff.mp hx with e | e
    · obtain ⟨e1, e2⟩ := List.cons.inj e
      subst e1
      subst e2
      exact p3 hx10
    · refine ih (opsZ y ++ P') (fun x hx => hk x (List.mem_cons_of_mem _ hx)) hs' ?_ p2 x u e hx10
      rw [List.append_assoc, ← p1]
      exact a2
theorem cst_run (H : ZjD C z T) {mm : Int64} (hn : ¬ LsO l) (hl : MkP 100 l []) : ∀ (t : List XrZ), (∀ x ∈ t, x.1.1 ≤ 13 ∧ ¬ x.1.1 = 9 ∧ ¬ x.1.1 = 6) → (∀ x u, (x :: u) <:+ t → x.1.1 = 2 → ¬ (T.1 (xcZ (u.map Sum.inl ++ l))).2.1 = 0) → (t.map Sum.inl ++ l) <:+ z.2.1 → (bxL z T t.length (xcZ l) (mm, mm, [], false)).2.2.2 = false ∧ phW (bxL z T t.length (xcZ l) (mm, mm, [], false)) = mm := by
  intro t
  induction t with
  | nil => exact fun _ _ _ => ⟨rfl, by show (mm &&& mm) &&& allB = mm; rw [an_id, an_al]⟩
  | cons x t ih =>
    intro hk h2 hs
    have hs : (.inl x :: (t.map Sum.inl ++ l)) <:+ z.2.1 := hs
    have hs' : (t.map Sum.inl ++ l) <:+ z.2.1 := (List.suffix_cons _ _).trans hs
    have hi : xcZ (t.map Sum.inl ++ l) < xnM z := xc_sf hs
    have xe : xth z (xcZ (t.map Sum.inl ++ l)) = x := xg_at hs
    have x0 := (H.2.2.1 _ hi).1
    rw [xe] at x0
    obtain ⟨i1, i2⟩ := ih (fun y hy => hk y (List.mem_cons_of_mem _ hy)) (fun y u hy => h2 y u (hy.trans (List.suffix_cons _ _))) hs'
    have eb : bxL z T (t.length + 1) (xcZ l) (mm, mm, [], false) = paW x (T.1 (xcZ (t.map Sum.inl ++ l))) (bxL z T t.length (xcZ l) (mm, mm, [], false)) := by
      rw [bxl_sn, ← xc_mp, xe]
    obtain ⟨G', g1', g2', _⟩ := ex_run H (mm := mm) (er := false) hn hl t hs'
    have al := aw_len g2'
    have gl := mkp_le g1'
    have k := hk x List.mem_cons_self
    obtain ⟨p1, p2⟩ := ph_pa (t := T.1 (xcZ (t.map Sum.inl ++ l))) (w := bxL z T t.length (xcZ l) (mm, mm, [], false)) ⟨x0, k.1⟩ k.2 (h2 x t List.suffix_rfl) (by omega)
    rw [List.length_cons, eb, p1, p2]
    exact ⟨i1, i2⟩
theorem inl_inj : ∀ {a b : List XrZ}, (a.map Sum.inl : List ItZ) = b.map Sum.inl → a = b := by
  intro a
  induction a with
  | nil =>
    intro b h
    cases b with
    | nil => rfl
    | cons y b => cases h
  | cons x a ih =>
    intro b h
    cases b with
    | nil => cases h
    | cons y b =>
      obtain ⟨h1, h2⟩ := List.cons.inj h
      cases h1
      rw [ih h2]
/-- a whole CONSTANT exp -/
theorem cst_ex (H : ZjD C z T) {lv : Int} {m : List ItZ} {r : XrZ} (hX : ExX lv l m r) (hl0 : 0 ≤ lv) (hh : HdR l) (hm : m <:+ z.2.1) (hc : ¬ (T.1 (xcZ m - 1)).2.1 = 0) (mm : Int64) : ∃ e, exD z T ((xcZ m : Int) - 1) mm = some e ∧ e.1 &&& e.2 = mm := by
  obtain ⟨t, ht⟩ := hX.xs
  obtain ⟨m1, e1, e2, ⟨e3, e4⟩, hk, xd⟩ := id hX
  have hl : l <:+ z.2.1 := hX.sf.trans hm
  have hs : (t.map Sum.inl ++ l) <:+ z.2.1 := by rw [← ht]; exact hm
  obtain ⟨G, hG⟩ := mkp_sf H.2.2.2 hl
  have G0 : G = [] := by
    rcases hh with h | ⟨y, l', h⟩
    · rw [h] at hG; exact hG
    · rw [h] at hG; exact hG.1
  subst G0
  have k14 : ∀ x ∈ t, x.1.1 ≤ 14 := xd.1 t ht
  obtain ⟨U, hU⟩ := sk_sf H.2.1 hl
  have hS := xd.2.1 U hU
  rw [ht] at hS
  have nn := hX.nn
  have all := cn_all H hU t [(xcZ (t.map Sum.inl ++ l) : Int) - 1] k14 hs hS (fun q hq => by
    rw [List.mem_singleton.mp hq, ← ht]
    unfold opT
    rw [nn.1]
    exact hc)
  have mem : ∀ x ∈ t, ∃ u, (x :: u) <:+ t := fun x hx => by
    obtain ⟨a, b, e⟩ := List.append_of_mem hx
    exact ⟨b, a, e.symm⟩
  have n9 : ∀ x ∈ t, ¬ x.1.1 = 9 := fun x hx q => by
    obtain ⟨u, hu⟩ := mem x hx
    exact (all x u hu (by omega)).2.2 q
  have n14 : ∀ x ∈ t, ¬ x.1.1 = 14 := by
    obtain ⟨v, hv, w⟩ := xd.2.2
    have e : t = v := by
      have := List.append_cancel_right (ht.symm.trans hv)
      exact inl_inj this
    rw [e] at n9 ⊢
    exact w n9
  obtain ⟨c1, c2⟩ := cst_run H (mm := mm) hh.n hG t (fun x hx => ⟨by have := k14 x hx; have := n14 x hx; omega, n9 x hx, fun q => by
    obtain ⟨u, hu⟩ := mem x hx
    exact (all x u hu (by omega)).2.1 q⟩) (fun x u hu q => (all x u hu (by omega)).1) hs
  have bw := bxw_run (w := (mm, mm, [], false)) (T := T) (mm := mm) hX hm ht
  have bw : bxW z T ((xcZ m : Int) - 1) mm (mm, mm, [], false) = bxL z T t.length (xcZ l) (mm, mm, [], false) := bw
  obtain ⟨F', f1', f2', _⟩ := ex_run H (mm := mm) (er := false) hh.n hG t hs
  have kF := hk 100 [] hG (by show 0 + 4 * (21 - lv).toNat ≤ 100; omega)
  rw [← ht] at f1'
  have F0 := mkp_un f1' kF
  subst F0
  have fe : (bxL z T t.length (xcZ l) (mm, mm, [], false)).2.2.1 = [] := f2'.1
  unfold exD
  rw [bw, if_neg (by rw [c1]; decide)]
  refine ⟨_, rfl, ?_⟩
  unfold phW at c2
  rw [fe] at c2
  exact (an_al (a := _)).symm.trans c2
end
