theorem er_nil {z : List Nat} (h : er z = []) : z = [] := by
  cases z with
  | nil => rfl
  | cons x r => cases h
theorem JV.js {σ τ : RS} {c n : Int32} {F : Prop} {E E' : List Nat} {s s' : SS} (h : JV σ (nT c) E s) (p : PC σ (nT c) E E' s s') (ho : 19 ≤ nT (aI σ 19 (nT c))) (hx : JS σ τ c n F) (hn : (n = 0 ∧ E = []) ∨ (n = 1 ∧ E = [0]))
    (hV : gI τ 66 = 0 → F → E = [0] → nT (aI σ 19 (nT c)) ≠ 21 → ¬ aI σ 70 0 = 5)
    (hC : gI τ 66 = 0 → F → JE σ E s (nT c) → EC τ (nT c))
    (h80 : gI τ 66 = 0 → ∀ i, i < nT c → aI σ 19 i = 17 → aI τ 80 (nT (aI σ 22 i)) = aI σ 80 (nT (aI σ 22 i)))
    (hm : 0 ≤ gI τ 89 ∧ nT (gI τ 89) = s'.2) (hb : 0 ≤ gI τ 91 ∧ nT (gI τ 91) = nlab s'.1 ∧ ∀ i, i < nT (gI τ 91) → 0 ≤ aI τ 90 i ∧ aI τ 90 i < gI σ 49)
    (hd : ∀ k, k < nT (gI σ 49) → aI τ 59 k = aI σ 59 k ∨ (aI τ 59 k = c ∧ 0 ≤ c ∧ aI σ 19 (nT c) = 39 ∧ nT (aI σ 20 (nT c)) = k))
    (hsw : gI τ 66 = 0 → F → (∀ q ∈ s.1, q.1 = 37 → 0 ≤ aI σ 88 q.2) → ∀ q ∈ s'.1, q.1 = 37 → 0 ≤ aI τ 88 q.2) : JV τ (nT c + 1) E' s' := by
  obtain ⟨x1, ⟨x2, x3⟩, ⟨x70, x71, x73, x81, x83⟩, x82, x9⟩ := hx
  have hE' : E' = [] := (eSt_s ho p.es).1
  have r19 := x1.2.2.1 19 rfl
  have r20 := x1.2.2.1 20 rfl
  have r21 := x1.2.2.1 21 rfl
  have i49 := x1.1 49 rfl
  have hl := h.l
  have hl0 : 0 ≤ gI τ 69 ∧ nT (gI τ 69) = 0 := by
    rcases hn with ⟨rfl, q⟩ | ⟨rfl, q⟩
    · rw [q] at hl
      have e : gI σ 69 - 0 = gI σ 69 := by lia
      rw [x2, e]
      exact hl
    · rw [q] at hl
      have e1 : nT (gI σ 69) = 1 := hl.2
      have e2 : gI σ 69 = 1 := eqJ e1 (by decide) 1 (by decide) (by decide)
      rw [x2, e2]
      decide
  refine ⟨⟨hl0.1, by rw [hl0.2, hE']; rfl⟩, ⟨by rw [x3]; exact h.x.1, ?_⟩, fun i hi => absurd hi (by rw [hl0.2]; exact Nat.not_lt_zero i), hm, by rw [i49]; exact hb, fun k hk => ?_, fun he => ?_⟩
  · rw [x3, r19]
    exact Nat.le_trans h.x.2 (Ne_mono _ (Nat.le_succ _))
  · rw [i49] at hk
    rw [r19, r20]
    rcases hd k hk with q | ⟨q1, q2, q3, q4⟩
    · rw [q]
      rcases h.d k hk with z | ⟨z1, z2, z3⟩
      · exact Or.inl z
      · exact Or.inr ⟨z1, by omega, z3⟩
    · rw [q1]
      exact Or.inr ⟨q2, by omega, q3, q4⟩
  · obtain ⟨y1, y2⟩ := x9 he
    have hJE := h.e y1
    obtain ⟨j1, ⟨z, j2, j3, j4⟩, j5, j6⟩ := hJE
    refine ⟨fun i hi => absurd hi (by rw [hl0.2]; exact Nat.not_lt_zero i), ⟨[], ?_, by rw [hE']; rfl, hl0.2⟩, hsw he y2 j5, fun i hi => ?_⟩
    · show (match Et (aI τ 19) (aI τ 20) (aI τ 21) (aI τ 81) (nT c) with | some z => eT (nT (aI τ 19 (nT c))) (aI τ 20 (nT c)) (aI τ 21 (nT c)) (aI τ 81 (nT c)) z | none => none) = some []
      rw [r19, r20, r21, x81, j2]
      show eT _ _ _ _ z = _
      have hes := p.es
      rw [hE'] at hes
      rcases hn with ⟨-, q⟩ | ⟨-, q⟩
      · rw [q] at j3 hes
        have hz := er_nil j3
        subst hz
        have h21 : nT (aI σ 19 (nT c)) ≠ 21 := by
          intro q21
          rw [q21] at hes
          simp only [eSt] at hes
          split at hes
          · rename_i q2; cases q2
          · cases hes
        rw [eT_stm ho h21]
        exact hes
      · rw [q] at j3 hes
        obtain ⟨x, r, m, z1, z2, z3, z4, z5, z6, z7⟩ := j4.top j3 (Or.inl rfl)
        have hr := er_nil z2
        subst hr
        have hm0 : m = 0 := z5
        subst hm0
        by_cases h21 : nT (aI σ 19 (nT c)) = 21
        · rw [h21, z1]
          show (if x % 10 = 0 then some [] else none) = _
          rw [if_pos z3]
        · have hx0 : x = 0 := by
            by_cases w : x < 10
            · omega
            · exact absurd (z7 (by omega)) (hV he y2 q h21)
          rw [eT_stm ho h21, z1, hx0]
          exact hes
    · by_cases q : i = nT c
      · subst q
        exact hC he y2 (h.e y1)
      · have hic : i < nT c := by omega
        refine (j6 i hic).fr x1 (by rw [x83]) (fun u _ => by rw [x81]) (x82 i q) (fun o17 => ?_)
        rw [h80 he i hic o17]
        exact (j6 i hic).2.1 o17
theorem ECn {τ : RS} {i : Nat} (w : ∀ y : Int32, (y = 2 ∨ y = 3 ∨ y = 4 ∨ y = 17 ∨ y = 18 ∨ y = 46 ∨ y = 47 ∨ y = 21) → ¬ aI τ 19 i = y) : EC τ i :=
  ⟨fun q => (q.elim (w 2 (by decide)) (fun q => q.elim (w 3 (by decide)) (fun q => q.elim (w 4 (by decide)) (w 17 (by decide))))).elim, fun q => (w 17 (by decide) q).elim, fun q => (w 18 (by decide) q).elim, fun q => (q.elim (w 46 (by decide)) (w 47 (by decide))).elim, fun q => (w 21 (by decide) q).elim⟩
theorem VN.z {σ : RS} {E : List Nat} (hl : 0 ≤ gI σ 69 ∧ nT (gI σ 69) = wl E) (hv : VN σ 1) (hE : E = [0]) : ¬ aI σ 70 0 = 5 := by
  rw [hE] at hl
  have e1 : nT (gI σ 69) = 1 := hl.2
  have e2 : gI σ 69 = 1 := eqJ e1 (by decide) 1 (by decide) (by decide)
  refine hv 0 ?_ (by omega)
  rw [e2]
  decide
theorem NoW {x : Int32} (l : List Int32) (hx : x ∈ l) (y : Int32) (hy : y ∉ l) : ¬ x = y := fun q => hy (q ▸ hx)
/-- over a code of a statement -/
theorem JV.stm {σ τ : RS} {c : Int32} {E E' : List Nat} {s s' : SS} (h : JV σ (nT c) E s) (p : PC σ (nT c) E E' s s') (hPJ : PJ σ) (h0 : 0 ≤ c) (hcc : nT c < nT (gI σ 18)) (ho19 : 19 ≤ aI σ 19 (nT c)) (hq : SQ σ τ c) : JV τ (nT c + 1) E' s' := by
  have on : 19 ≤ nT (aI σ 19 (nT c)) := nT_le (x := 19) (by decide) ho19
  obtain ⟨hE', hE, hb22, ha48⟩ := eSt_s on p.es
  have hlab := sSt_lab p.ss
  have hnl := sSt_nl p.ss
  have hsw := sSt_sw p.ss
  have hcy : ∀ i, i < nT c → cy (aI σ 6) (aI σ 19 i) (aI σ 20 i) (aI σ 22 i) := fun i hi => hPJ.cy (by omega)
  have hty := p.hce.2.2.2.2.2.2.2.2.2.2.1
  have w : ∀ {m : Int32} {n : Nat}, aI σ 19 (nT c) = m → nT m = n → nT (aI σ 19 (nT c)) = n := fun q1 q2 => by rw [q1, q2]
  have hE1 : pop1 (nT (aI σ 19 (nT c))) (aI σ 20 (nT c)) (aI σ 21 (nT c)) → E = [0] := fun q => hE.elim (fun z => z.1) (fun z => absurd q z.2)
  have hE0 : ¬ pop1 (nT (aI σ 19 (nT c))) (aI σ 20 (nT c)) (aI σ 21 (nT c)) → E = [] := fun q => hE.elim (fun z => absurd z.2 q) (fun z => z.1)
  have hms : (¬ nT (aI σ 19 (nT c)) = 54) → s'.2 = s.2 := hnl.2.2.1
  have hbs : ¬ nT (aI σ 19 (nT c)) = 41 → ¬ nT (aI σ 19 (nT c)) = 42 → nlab s'.1 = nlab s.1 := hlab.2.2.1
  have hsws : ¬ nT (aI σ 19 (nT c)) = 37 → (∀ q ∈ s.1, q.1 = 37 → 0 ≤ aI σ 88 q.2) → ∀ q ∈ s'.1, q.1 = 37 → 0 ≤ aI σ 88 q.2 := by
    intro h37 hs q hq q1
    rcases hsw.1 q hq q1 with z | z
    · exact hs q z q1
    · exact absurd z.1 h37
  -- plain codes
  have plain : ∀ (n : Int32) (F : Prop), JS σ τ c n F → PL σ τ → ((n = 0 ∧ E = []) ∨ (n = 1 ∧ E = [0])) → (F → E = [0] → ¬ aI σ 70 0 = 5) → nT (aI σ 19 (nT c)) ≠ 21 → nT (aI σ 19 (nT c)) ≠ 37 → nT (aI σ 19 (nT c)) ≠ 41 → nT (aI σ 19 (nT c)) ≠ 42 → nT (aI σ 19 (nT c)) ≠ 46 → nT (aI σ 19 (nT c)) ≠ 47 → nT (aI σ 19 (nT c)) ≠ 54 → JV τ (nT c + 1) E' s' := by
    intro n F hx hpl hn hV n21 n37 n41 n42 n46 n47 n54
    obtain ⟨p59, p80, p88, p90, p89, p91⟩ := hpl
    have r19 := hx.1.2.2.1 19 rfl
    refine h.js p on hx hn (fun _ f e _ => hV f e) (fun _ _ _ => ECn (fun y hy q => ?_)) (fun _ i _ _ => by rw [p80]) (by rw [p89, hms n54]; exact h.m) (by rw [p91, p90, hbs n41 n42]; exact h.b) (fun k _ => Or.inl (by rw [p59])) (fun _ _ hs => by rw [p88]; exact hsws n37 hs)
    rw [r19] at q
    rw [q] at n21 n46 n47 on
    rcases hy with rfl | rfl | rfl | rfl | rfl | rfl | rfl | rfl <;> first | (exact absurd on (by decide)) | contradiction | (exact absurd rfl n46) | (exact n46 (by decide)) | (exact n47 (by decide)) | (exact n21 (by decide))
  rcases hq with ⟨ho, hx, hpl⟩ | ⟨ho, hx, hpl⟩ | ⟨ho, hx, hpl⟩ | ⟨ho, hx, h88, p59, p80, p90, p89, p91⟩ | ⟨ho, hx, h59, p80, p88, p90, p89, p91⟩ | ⟨ho, hx, h80, ⟨h91, h90⟩, p59, p88, p89⟩ | ⟨ho, hx, h91, p59, p80, p88, p90, p89⟩ | ⟨ho, hx, h80, p59, p88, p90, p89, p91⟩ | ⟨ho, hx, h89, p59, p80, p88, p90, p91⟩ | ⟨ho, hx⟩
  · -- POP
    have ho : aI σ 19 (nT c) = 21 := ho
    have on2 := w ho (by decide : nT 21 = 21)
    have e1 := hE1 (Or.inl (Or.inl on2))
    obtain ⟨p59, p80, p88, p90, p89, p91⟩ := hpl
    have r19 := hx.1.2.2.1 19 rfl
    have r20 := hx.1.2.2.1 20 rfl
    have r21 := hx.1.2.2.1 21 rfl
    have x81 := hx.2.2.1.2.2.2.1
    refine h.js p on hx (Or.inr ⟨rfl, e1⟩) (fun _ f e q => absurd on2 q) (fun he f hJE => ?_) (fun _ i _ _ => by rw [p80]) (by rw [p89, hms (by omega)]; exact h.m) (by rw [p91, p90, hbs (by omega) (by omega)]; exact h.b) (fun k _ => Or.inl (by rw [p59])) (fun _ _ hs => by rw [p88]; exact hsws (by omega) hs)
    have w2 : ∀ y : Int32, ¬ y = 21 → ¬ aI τ 19 (nT c) = y := fun y hy q => by
      rw [r19, ho] at q
      exact hy q.symm
    refine ⟨fun q => (q.elim (w2 2 (by decide)) (fun q => q.elim (w2 3 (by decide)) (fun q => q.elim (w2 4 (by decide)) (w2 17 (by decide))))).elim, fun q => (w2 17 (by decide) q).elim, fun q => (w2 18 (by decide) q).elim, fun q => (q.elim (w2 46 (by decide)) (w2 47 (by decide))).elim, fun _ z hz => ?_⟩
    rw [r19, r20, r21, x81] at hz
    obtain ⟨-, ⟨z2, j2, j3, j4⟩, -, -⟩ := hJE
    obtain rfl : z2 = z := Option.some.inj (j2.symm.trans hz)
    rw [e1] at j3
    obtain ⟨x, r, m, z1, z2', z3, z4, z5, z6, z7⟩ := j4.top j3 (Or.inl rfl)
    have hr := er_nil z2'
    subst hr
    have hm0 : m = 0 := z5
    subst hm0
    have hl := h.l
    rw [e1] at hl
    have g1 : nT (gI σ 69) = 1 := hl.2
    have g2 : gI σ 69 = 1 := eqJ g1 (by decide) 1 (by decide) (by decide)
    have f : aI τ 82 (nT c) = aI σ 70 (nT (gI σ 69 - 1)) := f
    have g3 : nT (gI σ 69 - 1) = 0 := by rw [g2]; decide
    rw [g3] at f
    refine ⟨x, z1, ?_⟩
    rw [f]
    constructor
    · intro q5
      by_cases u : x < 10
      · exact absurd q5 (z6 u)
      · omega
    · exact z7
  · -- no value
    have ho : ((aI σ 19 (nT c) = 22 ∧ (aI σ 21 (nT c) = 0 ∨ aI σ 21 (nT c) = 2)) ∨ (aI σ 19 (nT c) = 33 ∧ aI σ 21 (nT c) = 0) ∨ (aI σ 19 (nT c) = 48 ∧ aI σ 20 (nT c) = 0)) := ho
    have on2 : nT (aI σ 19 (nT c)) = 22 ∨ nT (aI σ 19 (nT c)) = 33 ∨ nT (aI σ 19 (nT c)) = 48 := ho.imp (fun q => w q.1 (by decide)) (fun q => q.imp (fun q => w q.1 (by decide)) (fun q => w q.1 (by decide)))
    have np : ¬ pop1 (nT (aI σ 19 (nT c))) (aI σ 20 (nT c)) (aI σ 21 (nT c)) := by
      intro q
      rcases ho with ⟨z1, z2⟩ | ⟨z1, z2⟩ | ⟨z1, z2⟩
      · have on3 := w z1 (by decide : nT 22 = 22)
        rcases q with q | q | q | q
        · omega
        · rcases z2 with z2 | z2 <;> rw [z2] at q <;> exact absurd q.2 (by decide)
        · omega
        · omega
      · have on3 := w z1 (by decide : nT 33 = 33)
        rcases q with q | q | q | q
        · omega
        · omega
        · exact q.2 z2
        · omega
      · have on3 := w z1 (by decide : nT 48 = 48)
        rcases q with q | q | q | q
        · omega
        · omega
        · omega
        · rw [z2] at q; exact absurd q.2 (by decide)
    exact plain 0 True hx hpl (Or.inl ⟨rfl, hE0 np⟩) (fun _ e => by rw [hE0 np] at e; cases e) (by omega) (by omega) (by omega) (by omega) (by omega) (by omega) (by omega)
  · -- one value
    have ho : ((aI σ 19 (nT c) = 23 ∨ aI σ 19 (nT c) = 27 ∨ aI σ 19 (nT c) = 31 ∨ aI σ 19 (nT c) = 38 ∨ aI σ 19 (nT c) = 49) ∨ (aI σ 19 (nT c) = 22 ∧ aI σ 21 (nT c) = 1) ∨ (aI σ 19 (nT c) = 33 ∧ ¬ aI σ 21 (nT c) = 0) ∨ (aI σ 19 (nT c) = 48 ∧ aI σ 20 (nT c) = 1)) := ho
    have hp1 : pop1 (nT (aI σ 19 (nT c))) (aI σ 20 (nT c)) (aI σ 21 (nT c)) := by
      rcases ho with q | q | q | q
      · refine Or.inl ?_
        rcases q with q | q | q | q | q <;> rw [q] <;> decide
      · exact Or.inr (Or.inl ⟨w q.1 (by decide), q.2⟩)
      · exact Or.inr (Or.inr (Or.inl ⟨w q.1 (by decide), q.2⟩))
      · exact Or.inr (Or.inr (Or.inr ⟨w q.1 (by decide), q.2⟩))
    have on2 : nT (aI σ 19 (nT c)) = 23 ∨ nT (aI σ 19 (nT c)) = 27 ∨ nT (aI σ 19 (nT c)) = 31 ∨ nT (aI σ 19 (nT c)) = 38 ∨ nT (aI σ 19 (nT c)) = 49 ∨ nT (aI σ 19 (nT c)) = 22 ∨ nT (aI σ 19 (nT c)) = 33 ∨ nT (aI σ 19 (nT c)) = 48 := by
      rcases ho with q | q | q | q
      · rcases q with q | q | q | q | q <;> rw [q] <;> decide
      · rw [q.1]; decide
      · rw [q.1]; decide
      · rw [q.1]; decide
    exact plain 1 _ hx hpl (Or.inr ⟨rfl, hE1 hp1⟩) (fun f e => VN.z h.l f e) (by omega) (by omega) (by omega) (by omega) (by omega) (by omega) (by omega)
  · -- SW
    have ho : aI σ 19 (nT c) = 37 := ho
    have on2 := w ho (by decide : nT 37 = 37)
    have e1 := hE1 (Or.inl (by omega))
    have r19 := hx.1.2.2.1 19 rfl
    refine h.js p on hx (Or.inr ⟨rfl, e1⟩) (fun _ f e _ => VN.z h.l f.1 e) (fun _ _ _ => ECn (fun y hy q => ?_)) (fun _ i _ _ => by rw [p80]) (by rw [p89, hms (by omega)]; exact h.m) (by rw [p91, p90, hbs (by omega) (by omega)]; exact h.b) (fun k _ => Or.inl (by rw [p59])) (fun _ f hs q hq q1 => ?_)
    · rw [r19, ho] at q
      rw [← q] at hy
      exact absurd hy (by decide)
    · by_cases z : q.2 = nT (aI σ 20 (nT c))
      · rw [z]; exact f.2
      · rw [h88 q.2 z]
        rcases hsw.1 q hq q1 with u | u
        · exact hs q u q1
        · rw [u.2] at z; exact absurd rfl z
  · -- DEF
    have ho : aI σ 19 (nT c) = 39 := ho
    have on2 := w ho (by decide : nT 39 = 39)
    have np : ¬ pop1 (nT (aI σ 19 (nT c))) (aI σ 20 (nT c)) (aI σ 21 (nT c)) := by
      intro q
      rcases q with q | q | q | q <;> omega
    have r19 := hx.1.2.2.1 19 rfl
    refine h.js p on hx (Or.inl ⟨rfl, hE0 np⟩) (fun _ f e _ => by rw [hE0 np] at e; cases e) (fun _ _ _ => ECn (fun y hy q => ?_)) (fun _ i _ _ => by rw [p80]) (by rw [p89, hms (by omega)]; exact h.m) (by rw [p91, p90, hbs (by omega) (by omega)]; exact h.b) (fun k _ => ?_) (fun _ _ hs => by rw [p88]; exact hsws (by omega) hs)
    · rw [r19, ho] at q
      rw [← q] at hy
      exact absurd hy (by decide)
    · rcases h59 with q | q
      · exact Or.inl (by rw [q])
      · rw [q]
        by_cases z : k = nT (aI σ 20 (nT c))
        · refine Or.inr ⟨?_, h0, ho, z.symm⟩
          rw [z]; exact upd_eq
        · exact Or.inl (upd_ne z)
  · -- LAB
    have ho : aI σ 19 (nT c) = 41 := ho
    have on2 := w ho (by decide : nT 41 = 41)
    have np : ¬ pop1 (nT (aI σ 19 (nT c))) (aI σ 20 (nT c)) (aI σ 21 (nT c)) := by
      intro q
      rcases q with q | q | q | q <;> omega
    have r19 := hx.1.2.2.1 19 rfl
    have hk : kop (nT (aI σ 19 (nT c))) = true := by rw [on2]; rfl
    have h9 : 0 ≤ aI σ 20 (nT c) ∧ aI σ 20 (nT c) < gI σ 49 := p.hce.2.2.2.2.1 hk
    have hbb := h.b
    have hn40 := nlab_le s.1
    have hn41 := p.n1
    have hl91 : gI σ 91 ≤ 40 := i32 (n := 40) hbb.1 (by omega) 40 (by decide) (by decide)
    have e91 : nT (gI σ 91 + 1) = nT (gI σ 91) + 1 := nT_add hbb.1 (by lia)
    refine h.js p on hx (Or.inl ⟨rfl, hE0 np⟩) (fun _ f e _ => by rw [hE0 np] at e; cases e) (fun _ _ _ => ECn (fun y hy q => ?_)) (fun _ i hi o17 => ?_) (by rw [p89, hms (by omega)]; exact h.m) ⟨by rw [h91]; lia, by rw [h91, e91, (hlab.1 on2).1, hbb.2.1], fun i hi => ?_⟩ (fun k _ => Or.inl (by rw [p59])) (fun _ _ hs => by rw [p88]; exact hsws (by omega) hs)
    · rw [r19, ho] at q
      rw [← q] at hy
      exact absurd hy (by decide)
    · refine h80 _ (fun q => ?_)
      have c1 := (hcy i hi).1 (Or.inr o17)
      have c2 := hty.1 ho
      have q : nT (aI σ 22 i) = nT (aI σ 22 (nT c)) := q
      rw [q, c2] at c1
      exact absurd c1 (by decide)
    · rw [h91, e91] at hi
      rw [h90]
      by_cases z : i = nT (gI σ 91)
      · subst z; rw [upd_eq]; exact h9
      · rw [upd_ne z]; exact hbb.2.2 i (by omega)
  · -- LABX
    have ho : aI σ 19 (nT c) = 42 := ho
    have on2 := w ho (by decide : nT 42 = 42)
    have np : ¬ pop1 (nT (aI σ 19 (nT c))) (aI σ 20 (nT c)) (aI σ 21 (nT c)) := by
      intro q
      rcases q with q | q | q | q <;> omega
    have r19 := hx.1.2.2.1 19 rfl
    have hbb := h.b
    have hl := hlab.2.1 on2
    have hp91 : 0 < gI σ 91 := by
      apply t_lt
      have a1 := t_nT hbb.1
      show (0 : Int) < _
      omega
    have e91 := nT_sub hp91
    refine h.js p on hx (Or.inl ⟨rfl, hE0 np⟩) (fun _ f e _ => by rw [hE0 np] at e; cases e) (fun _ _ _ => ECn (fun y hy q => ?_)) (fun _ i _ _ => by rw [p80]) (by rw [p89, hms (by omega)]; exact h.m) ⟨by rw [h91]; lia, by rw [h91]; omega, fun i hi => ?_⟩ (fun k _ => Or.inl (by rw [p59])) (fun _ _ hs => by rw [p88]; exact hsws (by omega) hs)
    · rw [r19, ho] at q
      rw [← q] at hy
      exact absurd hy (by decide)
    · rw [h91] at hi
      rw [p90]
      exact hbb.2.2 i (by omega)
  · -- BRK CNT
    have ho : aI σ 19 (nT c) = 46 ∨ aI σ 19 (nT c) = 47 := ho
    have on2 : nT (aI σ 19 (nT c)) = 46 ∨ nT (aI σ 19 (nT c)) = 47 := ho.imp (fun q => w q (by decide)) (fun q => w q (by decide))
    have np : ¬ pop1 (nT (aI σ 19 (nT c))) (aI σ 20 (nT c)) (aI σ 21 (nT c)) := by
      intro q
      rcases q with q | q | q | q <;> omega
    have r19 := hx.1.2.2.1 19 rfl
    have r20 := hx.1.2.2.1 20 rfl
    refine h.js p on hx (Or.inl ⟨rfl, hE0 np⟩) (fun _ f e _ => by rw [hE0 np] at e; cases e) (fun _ f _ => ?_) (fun _ i hi o17 => ?_) (by rw [p89, hms (by omega)]; exact h.m) (by rw [p91, p90, hbs (by omega) (by omega)]; exact h.b) (fun k _ => Or.inl (by rw [p59])) (fun _ _ hs => by rw [p88]; exact hsws (by omega) hs)
    · have w2 : ∀ y : Int32, ¬ y = 46 → ¬ y = 47 → ¬ aI τ 19 (nT c) = y := fun y h1 h2 q => by
        rw [r19] at q
        rcases ho with z | z
        · exact h1 (q.symm.trans z)
        · exact h2 (q.symm.trans z)
      refine ⟨fun q => (q.elim (w2 2 (by decide) (by decide)) (fun q => q.elim (w2 3 (by decide) (by decide)) (fun q => q.elim (w2 4 (by decide) (by decide)) (w2 17 (by decide) (by decide))))).elim, fun q => (w2 17 (by decide) (by decide) q).elim, fun q => (w2 18 (by decide) (by decide) q).elim, fun _ => by rw [r20]; exact f, fun q => (w2 21 (by decide) (by decide) q).elim⟩
    · rcases h80 with z | ⟨z1, z2⟩
      · rw [z]
      · refine z2 _ (fun q => ?_)
        have c1 := (hcy i hi).1 (Or.inr o17)
        have c2 := hty.2 ho z1
        have q : nT (aI σ 22 i) = nT (aI σ 22 (nT c)) := q
        rw [q, c2] at c1
        exact absurd c1 (by decide)
  · -- MEND
    have ho : aI σ 19 (nT c) = 54 := ho
    have on2 := w ho (by decide : nT 54 = 54)
    have np : ¬ pop1 (nT (aI σ 19 (nT c))) (aI σ 20 (nT c)) (aI σ 21 (nT c)) := by
      intro q
      rcases q with q | q | q | q <;> omega
    have r19 := hx.1.2.2.1 19 rfl
    have hm := h.m
    have hm1 := p.m1
    have hl89 : gI σ 89 ≤ 10 := i32 (n := 10) hm.1 (by omega) 10 (by decide) (by decide)
    have e89 : nT (gI σ 89 + 1) = nT (gI σ 89) + 1 := nT_add hm.1 (by lia)
    refine h.js p on hx (Or.inl ⟨rfl, hE0 np⟩) (fun _ f e _ => by rw [hE0 np] at e; cases e) (fun _ _ _ => ECn (fun y hy q => ?_)) (fun _ i _ _ => by rw [p80]) ⟨by rw [h89]; lia, by rw [h89, e89, hlab.2.2.2 on2, hm.2]⟩ (by rw [p91, p90, hbs (by omega) (by omega)]; exact h.b) (fun k _ => Or.inl (by rw [p59])) (fun _ _ hs => by rw [p88]; exact hsws (by omega) hs)
    rw [r19, ho] at q
    rw [← q] at hy
    exact absurd hy (by decide)
  · -- no work
    have np : ¬ pop1 (nT (aI σ 19 (nT c))) (aI σ 20 (nT c)) (aI σ 21 (nT c)) ∧ nT (aI σ 19 (nT c)) ≠ 21 ∧ nT (aI σ 19 (nT c)) ≠ 37 ∧ nT (aI σ 19 (nT c)) ≠ 41 ∧ nT (aI σ 19 (nT c)) ≠ 42 ∧ nT (aI σ 19 (nT c)) ≠ 46 ∧ nT (aI σ 19 (nT c)) ≠ 47 ∧ nT (aI σ 19 (nT c)) ≠ 54 ∧ nT (aI σ 19 (nT c)) ≠ 22 ∧ nT (aI σ 19 (nT c)) ≠ 33 ∧ nT (aI σ 19 (nT c)) ≠ 48 := by
      have hb : nT (aI σ 19 (nT c)) ∉ [21, 23, 27, 31, 37, 38, 49, 41, 42, 46, 47, 54, 22, 33, 48] := by
        have ho := ho
        rcases ho with q | q | q | q | q | q | q | q | q | q | q | q | q | q | q | q | q | q | q | q <;> (rw [show aI σ 19 (nT c) = _ from q]; decide)
      simp only [List.mem_cons, not_or, List.not_mem_nil, not_false_eq_true, and_true] at hb
      refine ⟨fun q => ?_, by omega, by omega, by omega, by omega, by omega, by omega, by omega, by omega, by omega, by omega⟩
      rcases q with q | q | q | q <;> omega
    rw [hx]
    rw [hx] at plain
    exact plain 0 True ⟨Fj.rf, ⟨by lia, rfl⟩, ⟨rfl, rfl, rfl, rfl, rfl⟩, fun _ _ => rfl, fun he => ⟨he, trivial⟩⟩ ⟨rfl, rfl, rfl, rfl, rfl, rfl⟩ (Or.inl ⟨rfl, hE0 np.1⟩) (fun _ e => by rw [hE0 np.1] at e; cases e) np.2.1 np.2.2.1 np.2.2.2.1 np.2.2.2.2.1 np.2.2.2.2.2.1 np.2.2.2.2.2.2.1 np.2.2.2.2.2.2.2.1
